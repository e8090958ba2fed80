/-! CALLS THAT CHANGE THE SCENE: show, teach, undo, clear. -/
section
theorem CI.scene {O O' : Mem_} {A : A_} (c : Sc_) (h : CI O A) (e1 : ∀ i, i ≠ 0 → O' 1 i = O 1 i) (e2 : O' 2 = O 2) (e3 : O' 3 = O 3) (e4 : O' 4 = O 4) (e6 : O' 6 = O 6) (hS : CS (O' 1 0) c) (hB : CB (O' 1 0)) (hM : CM (O' 0 0) A.1 (2 ^ nK A.1 - 1) c.1 (mds A.1 c.2.1 c.1)) : CI O' (A.1, c, A.2.2) := by
  obtain ⟨w, cw, c9, hT, -, hI, hB', -, hP, hF, hSh⟩ := h
  refine ⟨w, by rw [e6]; exact cw, by rw [e6]; exact c9, by rw [e4]; exact hT, hS, fun i hi => by rw [e1 _ (by omega)]; exact hI i hi, fun i hi => ?_, hM, by rw [e3]; exact hP, by rw [e3]; exact hF, by rw [e2]; exact hSh⟩
  by_cases z : i = 0
  · rw [z]; exact hB
  · rw [e1 i z]; exact hB' i hi
/-- one showing more -/
def addS (c : Sc_) (s t : Nat) (so : Bool) : Sc_ := (c.1 + 1, upF c.2.1 c.1 (s, t, so), c.2.2)
theorem addS_wf {T : Td_} {c : Sc_} {s t : Nat} {so : Bool} (h : WSc T c) (hn : c.1 < 24) (hs : s < nS T) (ht : t < nT T) : WSc T (addS c s t so) := by
  refine ⟨hn, fun j hj => ?_, h.2.2⟩
  by_cases e : j = c.1
  · subst e; simp only [addS, upF, if_true]; exact ⟨hs, ht⟩
  · simp only [addS, upF, e, if_false]
    have hj : j < c.1 + 1 := hj
    exact h.2.1 j (by omega)
theorem mds_add {T : Td_} {c : Sc_} {s t : Nat} {so : Bool} : mds T (addS c s t so).2.1 (addS c s t so).1 = see T c.1 s t so (mds T c.2.1 c.1) := by
  show mds T (upF c.2.1 c.1 (s, t, so)) (c.1 + 1) = _
  show see T c.1 (upF c.2.1 c.1 (s, t, so) c.1).1 (upF c.2.1 c.1 (s, t, so) c.1).2.1 (upF c.2.1 c.1 (s, t, so) c.1).2.2 (mds T (upF c.2.1 c.1 (s, t, so)) c.1) = _
  have e : ∀ j, j < c.1 → upF c.2.1 c.1 (s, t, so) j = c.2.1 j := fun j hj => by simp only [upF]; rw [if_neg (by omega)]
  rw [mds_ext c.1 e]
  simp only [upF, if_true]
theorem m_takeShowing (d : Nat) {O : Mem_} {A : A_} {s t : Nat} {so : Bool} (hw : WA A) (hc : CI O A) (hn : A.2.1.1 < 24) (hs : s < nS A.1) (ht : t < nT A.1) : ∃ O', ex (d + 5) 111 0 [some (vr 6 0 0), some (vi (nI s)), some (vi (nI t)), some (vi (bI so))] [] O = some (nI 0, O') ∧ CI O' (A.1, addS A.2.1 s t so, A.2.2) ∧ O' 7 = O 7 ∧ O' 8 = O 8 ∧ O' 1 0 0 0 = nI (A.2.1.1 + 1) ∧ ∀ c, c ≠ 0 → c ≠ 1 → O' c = O c := by
  have hc' := hc
  obtain ⟨w, cw, c9, hT, hS, hI, hB, hM, hP, hF, hSh⟩ := hc
  have hsel := cw.sel
  obtain ⟨wT, wS, wI, wP, wF, wSh, wt⟩ := hw
  have h6 := wT.2.2.2.1
  have h64 : 2 ^ nK A.1 ≤ 2 ^ 6 := Nat.pow_le_pow_right (by decide) h6
  have wMd : WMd A.1 (mds A.1 A.2.1.2.1 A.2.1.1) := mds_wf _ (by omega)
  generalize hO1 : up (up (up (up O 1 0 2 A.2.1.1 (nI s)) 1 0 3 A.2.1.1 (nI t)) 1 0 4 A.2.1.1 (bI so)) 1 0 0 0 (nI (A.2.1.1 + 1)) = O1
  have r : ∀ c n, c ≠ 1 ∨ n ≠ 0 → O1 c n = O c n := fun c n z => by rw [← hO1, up_row z, up_row z, up_row z, up_row z]
  have rc : ∀ c, c ≠ 1 → O1 c = O c := fun c z => funext fun n => r c n (Or.inl z)
  obtain ⟨c, O2, e2, r2, m2, -⟩ := m_see (O := O1) (n := w) (i := 0) d (K := 2 ^ nK A.1 - 1) (so := so) (by omega) hs ht (by rw [rc 4 (by decide)]; exact hT) wT (by rw [rc 0 (by decide)]; exact hM) wMd (by omega)
  have f1 : ∀ n, O2 1 n = O1 1 n := fun n => r2 1 n (Or.inl (by decide))
  refine ⟨O2, ?_, hc'.scene (addS A.2.1 s t so) (fun i hi => by rw [f1, r 1 i (Or.inr hi)]) ?_ ?_ ?_ ?_ ?_ ?_ ?_, ?_, ?_, ?_, fun c z1 z2 => ?_⟩
  · rw [sX6_takeShowing_0]
    simp (disch := omega) only [nI_ltI, nI_eq, nI_add, nI_clamp, ib_n, pk_mul, q_and, q_or, q_dn, q_shl, q_shlm, q_p1, if_true, if_false, ↓reduceIte, Option.bind_some, bI_0, bI_1, bI_01, b_or, Nat.not_lt_zero, Nat.zero_add, Bool.false_eq_true, Bool.true_eq_false, or_false, or_true, true_or, false_or, hS.1]
    simp (disch := omega) only [up_ne, up_row]
    simp (disch := omega) only [nI_ltI, nI_eq, nI_add, nI_clamp, ib_n, pk_mul, q_and, q_or, q_dn, q_shl, q_shlm, q_p1, if_true, if_false, ↓reduceIte, Option.bind_some, bI_0, bI_1, bI_01, b_or, Nat.not_lt_zero, Nat.zero_add, Bool.false_eq_true, Bool.true_eq_false, or_false, or_true, true_or, false_or, hS.1, hsel]
    rw [hO1]
    rw [m_allKinds _ (by rw [rc 4 (by decide)]; exact hT) wT]
    simp (disch := omega) only [nI_ltI, nI_eq, nI_add, nI_clamp, ib_n, pk_mul, q_and, q_or, q_dn, q_shl, q_shlm, q_p1, if_true, if_false, ↓reduceIte, Option.bind_some, bI_0, bI_1, bI_01, b_or, Nat.not_lt_zero, Nat.zero_add, Bool.false_eq_true, Bool.true_eq_false, or_false, or_true, true_or, false_or, e2]
    rw [if_pos hn]
  · funext n; rw [r2 2 n (Or.inl (by decide)), rc 2 (by decide)]
  · funext n; rw [r2 3 n (Or.inl (by decide)), rc 3 (by decide)]
  · funext n; rw [r2 4 n (Or.inl (by decide)), rc 4 (by decide)]
  · funext n; rw [r2 6 n (Or.inl (by decide)), rc 6 (by decide)]
  · rw [f1, ← hO1]
    refine ⟨by rw [up_eq]; rfl, fun j hj => ?_, ?_, ?_, fun j hj => ?_⟩
    · have hj : j < A.2.1.1 + 1 := hj
      by_cases e : j = A.2.1.1
      · subst e
        simp (disch := omega) only [up_ne, up_eq, addS, upF, if_true, and_self]
      · simp (disch := omega) only [up_ne, addS, upF, e, if_false]
        exact hS.2.1 j (by omega)
    · simp (disch := omega) only [up_ne]; exact hS.2.2.1
    · simp (disch := omega) only [up_ne]; exact hS.2.2.2.1
    · simp (disch := omega) only [up_ne]; exact hS.2.2.2.2 j hj
  · rw [f1, ← hO1]
    refine ⟨fun j hj => ?_, fun j hj => ?_⟩
    · by_cases e : j = A.2.1.1
      · subst e
        simp (disch := omega) only [up_ne, up_eq]
        cases so
        · exact Or.inl rfl
        · exact Or.inr rfl
      · simp (disch := omega) only [up_ne]; exact (hB 0 (by decide)).1 j hj
    · simp (disch := omega) only [up_ne]; exact (hB 0 (by decide)).2 j hj
  · rw [mds_add]; exact m2
  · funext n; rw [r2 7 n (Or.inl (by decide)), rc 7 (by decide)]
  · funext n; rw [r2 8 n (Or.inl (by decide)), rc 8 (by decide)]
  · rw [f1, ← hO1, up_eq]
  · funext n; rw [r2 c n (Or.inl z1), rc c z2]
theorem WA.scene {A : A_} {c : Sc_} (h : WA A) (hc : WSc A.1 c) : WA (A.1, c, A.2.2) := ⟨h.1, hc, h.2.2⟩
theorem show_bad (d : Nat) {w : Nat} {O : Mem_} {T : Td_} {x y z : Int32} (hsel : sel (O 6 0 0 1) = w) (hT : CT (O 4 w) T) (h : hsI x (nS T) = false ∨ hsI y (nT T) = false) : ex (d + 2) 75 0 [some (vr 6 0 0), some (vi x), some (vi y), some (vi z)] [] O = some (-1, O) := by
  rw [sX6_show_0]
  rcases h with h | h
  · simp (disch := omega) only [nI_ltI, nI_eq, nI_add, nI_clamp, ib_n, pk_mul, q_and, q_or, q_dn, q_shl, q_shlm, q_p1, if_true, if_false, ↓reduceIte, Option.bind_some, bI_0, bI_1, bI_01, b_or, Nat.not_lt_zero, Nat.zero_add, Bool.false_eq_true, Bool.true_eq_false, or_false, or_true, true_or, false_or, hsel, m_hasSound (h := hT), h]
  · simp (disch := omega) only [nI_ltI, nI_eq, nI_add, nI_clamp, ib_n, pk_mul, q_and, q_or, q_dn, q_shl, q_shlm, q_p1, if_true, if_false, ↓reduceIte, Option.bind_some, bI_0, bI_1, bI_01, b_or, Nat.not_lt_zero, Nat.zero_add, Bool.false_eq_true, Bool.true_eq_false, or_false, or_true, true_or, false_or, hsel, m_hasSound (h := hT), m_hasThing (h := hT), h]
    cases hsI x (nS T) <;> simp
theorem m_isInX (d : Nat) (O : Mem_) (x : Int32) {b : Nat} (hb : b < 2 ^ 31) : ∃ c : Bool, ex (d + 1) 109 0 [some (vi x), some (vi (nI b))] [] O = some (bI c, O) := by
  by_cases h0 : x < nI 0
  · exact ⟨false, by rw [sX6_isIn_0, if_pos h0]; rfl⟩
  · obtain ⟨j, hj, rfl⟩ := nI_of h0
    by_cases h1 : j < 31
    · exact ⟨_, m_isIn d O h1 hb⟩
    · exact ⟨false, by rw [sX6_isIn_0, if_neg h0, if_neg (by rw [nI_ltI hj (by decide)]; exact h1)]; rfl⟩
/-- thinking anew -/
theorem m_thinkAgain (d : Nat) {O : Mem_} {T : Td_} {c : Sc_} {w : Nat} (hsel : sel (O 6 0 0 1) = w) (hT : CT (O 4 w) T) (wT : WT T) (hS : CS (O 1 0) c) (wS : WSc T c) : ∃ O', ex (d + 5) 112 0 [some (vr 6 0 0)] [] O = some (nI 0, O') ∧ Ro 0 0 O O' ∧ CM (O' 0 0) T (2 ^ nK T - 1) c.1 (mds T c.2.1 c.1) := by
  have h6 := wT.2.2.2.1
  have h64 : 2 ^ nK T ≤ 2 ^ 6 := Nat.pow_le_pow_right (by decide) h6
  have h24 := wS.1
  rw [sX6_thinkAgain_0]
  obtain ⟨O1, e1, r1, m1⟩ := m_blank (O := O) (n := w) (i := 0) (d + 2) hT wT
  simp (disch := omega) only [nI_ltI, nI_eq, nI_add, nI_clamp, ib_n, pk_mul, q_and, q_or, q_dn, q_shl, q_shlm, q_p1, if_true, if_false, ↓reduceIte, Option.bind_some, bI_0, bI_1, bI_01, b_or, Nat.not_lt_zero, Nat.zero_add, Bool.false_eq_true, Bool.true_eq_false, or_false, or_true, true_or, false_or, hsel, e1]
  refine Exists.elim (lp_i (fun j (O : Mem_) => ex (d + 5) 112 13 [some (vr 6 0 0), some (vi (nI j))] [] O) (fun j O' => Ro 0 0 O O' ∧ CM (O' 0 0) T (2 ^ nK T - 1) j (mds T c.2.1 j)) c.1 ?_ O1 ⟨r1, m1 _⟩) ?_
  · intro j O' hj ⟨g1, g2⟩
    have hT' : CT (O' 4 w) T := by rw [g1 4 w (Or.inl (by decide))]; exact hT
    obtain ⟨t1, t2, t3⟩ := hS.2.1 j hj
    have wj := wS.2.1 j hj
    obtain ⟨b, O2, e2, r2, m2, -⟩ := m_see (O := O') (n := w) (i := 0) d (K := 2 ^ nK T - 1) (s := (c.2.1 j).1) (t := (c.2.1 j).2.1) (so := (c.2.1 j).2.2) (by omega) wj.1 wj.2 hT' wT g2 (mds_wf _ (by omega)) (by omega)
    refine ⟨O2, ?_, g1.trans r2, m2⟩
    refine (sX6_thinkAgain_13 ..).trans ?_
    simp (disch := omega) only [nI_ltI, nI_eq, nI_add, nI_clamp, ib_n, pk_mul, q_and, q_or, q_dn, q_shl, q_shlm, q_p1, if_true, if_false, ↓reduceIte, Option.bind_some, bI_0, bI_1, bI_01, b_or, Nat.not_lt_zero, Nat.zero_add, Bool.false_eq_true, Bool.true_eq_false, or_false, or_true, true_or, false_or, g1 1 0 (Or.inl (by decide)), g1 6 0 (Or.inl (by decide)), hS.1, hj, hsel, m_allKinds (h := hT') (hT := wT), t1, t2, t3, e2]
    rw [if_pos (by omega)]
  · rintro O' ⟨e, g1, g2⟩
    refine ⟨O', e.trans ?_, g1, g2⟩
    refine (sX6_thinkAgain_13 ..).trans ?_
    simp (disch := omega) only [nI_ltI, nI_eq, nI_add, nI_clamp, ib_n, pk_mul, q_and, q_or, q_dn, q_shl, q_shlm, q_p1, if_true, if_false, ↓reduceIte, Option.bind_some, bI_0, bI_1, bI_01, b_or, Nat.not_lt_zero, Nat.zero_add, Bool.false_eq_true, Bool.true_eq_false, or_false, or_true, true_or, false_or, g1 1 0 (Or.inl (by decide)), hS.1, Nat.lt_irrefl]
end
