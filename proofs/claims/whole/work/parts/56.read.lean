/-! read. -/
section
theorem m_cell (d : Nat) {O : Mem_} {k j : Nat} (hk : k < 4) (hj : j < 40) : ex (d + 1) 19 0 [some (vr 2 0 0), some (vi (nI k)), some (vi (nI j))] [] O = some (O 2 0 (4 + k) j, O) := by
  rw [sX2_cell_0]
  simp (disch := omega) only [nI_ltI, nI_eq, nI_add, nI_clamp, ib_n, pk_mul, q_and, q_or, q_dn, q_shl, q_shlm, q_p1, if_true, if_false, ↓reduceIte, Option.bind_some, bI_0, bI_1, bI_01, b_or, Nat.not_lt_zero, Nat.zero_add, Bool.false_eq_true, Bool.true_eq_false, or_false, or_true, true_or, false_or, aty_sh hk, aln_sh hk, cond_true]
  rw [if_pos hk, if_pos hj]
/-- a showing's three cells -/
def rdA (c : Nat → Int32) (f i : Nat) : Int32 := c (f + 3 * i)
def rdB (c : Nat → Int32) (f i : Nat) : Int32 := c (f + 3 * i + 1)
def rdC (c : Nat → Int32) (f i : Nat) : Int32 := c (f + 3 * i + 2)
def rdK (T : Td_) (c : Nat → Int32) (f i : Nat) : Bool := hsI (rdA c f i) (nS T) && (hsI (rdB c f i) (nT T) && hsI (rdC c f i) 2)
def rdX (T : Td_) (c : Nat → Int32) (f sh i : Nat) : Bool := !rdK T c f i || decide (24 ≤ sh + i)
def rdV (T : Td_) (c : Nat → Int32) (f i : Nat) : Int32 := if rdK T c f i = true then -3 else (-20) - nI i
def rdS (T : Td_) (c : Nat → Int32) (f : Nat) (sc : Sc_) : Nat → Sc_
  | 0 => sc
  | i + 1 => addS (rdS T c f sc i) (rdA c f i).toNatClampNeg (rdB c f i).toNatClampNeg (decide (rdC c f i = nI 1))
theorem rdS_n (T : Td_) (c : Nat → Int32) (f : Nat) (sc : Sc_) : ∀ i, (rdS T c f sc i).1 = sc.1 + i
  | 0 => rfl
  | i + 1 => by
    show (rdS T c f sc i).1 + 1 = _
    rw [rdS_n T c f sc i, Nat.add_assoc]
theorem hsI_cl {x : Int32} {n : Nat} (hn : n < 2 ^ 31) (h : hsI x n = true) : x = nI x.toNatClampNeg ∧ x.toNatClampNeg < n := by
  obtain ⟨j, hj, rfl⟩ := hsI_of hn h
  rw [nI_clamp (by omega)]
  exact ⟨rfl, hj⟩
theorem rd20 : ∀ i, i < 13 → ¬ ((-20 : Int32) - nI i = nI 0) := by decide +kernel
theorem rdV_ne (T : Td_) (c : Nat → Int32) (f : Nat) {i : Nat} (hi : i < 13) : ¬ rdV T c f i = nI 0 := by
  unfold rdV
  split
  · decide
  · exact rd20 i hi
theorem hs2 (x : Int32) : hsI x 2 = (decide (x = nI 0) || decide (x = nI 1)) := by
  by_cases h : hsI x 2 = true
  · obtain ⟨j, hj, rfl⟩ := hsI_of (by decide) h
    rw [h]
    rcases (by omega : j = 0 ∨ j = 1) with rfl | rfl <;> decide
  · have h := bool_ne h
    rw [h, decide_eq_false (fun e => (hsI_ne (by decide) h (c := 0) (by decide)).mp e), decide_eq_false (fun e => (hsI_ne (by decide) h (c := 1) (by decide)).mp e)]
    rfl
theorem m_firstWrong (d : Nat) {O : Mem_} {T : Td_} {w k f W sh : Nat} {c : Nat → Int32} (hk : k < 4) (hf : f + 3 * W ≤ 40) (hsel : sel (O 6 0 0 1) = w) (hT : CT (O 4 w) T) (hc : ∀ i, i < 40 → O 2 0 (4 + k) i = c i) (hsh : O 1 0 0 0 = nI sh) (hsh2 : sh ≤ 24) : ex (d + 2) 119 0 [some (vr 6 0 0), some (vi (nI k)), some (vi (nI f)), some (vi (nI W))] [] O = match (List.range W).find? (rdX T c f sh) with
    | some i => some (rdV T c f i, O)
    | none => some (nI 0, O) := by
  rw [sX6_firstWrongRead_0]
  refine (lp_f (fun i => ex (d + 2) 119 3 [some (vr 6 0 0), some (vi (nI k)), some (vi (nI f)), some (vi (nI W)), some (vi (nI i))] [] O) (rdX T c f sh) (fun i => some (rdV T c f i, O)) W (fun i hi => ?_)).trans ?_
  · refine (sX6_firstWrongRead_3 ..).trans ?_
    have hA : O 2 0 (4 + k) (f + 3 * i) = rdA c f i := hc _ (by omega)
    have hB : O 2 0 (4 + k) (f + 3 * i + 1) = rdB c f i := hc _ (by omega)
    have hC : O 2 0 (4 + k) (f + 3 * i + 2) = rdC c f i := hc _ (by omega)
    simp (disch := omega) only [nI_ltI, nI_eq, nI_add, nI_clamp, ib_n, pk_mul, q_and, q_or, q_dn, q_shl, q_shlm, q_p1, if_true, if_false, ↓reduceIte, Option.bind_some, bI_0, bI_1, bI_01, b_or, Nat.not_lt_zero, Nat.zero_add, Bool.false_eq_true, Bool.true_eq_false, or_false, or_true, true_or, false_or, hi, m_cell d hk, hA, hB, hC, hsel, m_hasSound d _ hT, m_hasThing d _ hT]
    have bad : rdK T c f i = false → rdX T c f sh i = true ∧ rdV T c f i = (-20) - nI i := fun h => ⟨by rw [rdX, h]; rfl, by rw [rdV, h, if_neg (by decide)]⟩
    cases h1 : hsI (rdA c f i) (nS T) with
    | false =>
      obtain ⟨b1, b2⟩ := bad (by rw [rdK, h1]; rfl)
      rw [if_pos rfl, sX6_firstWrongRead_78, if_pos rfl, b1, if_pos rfl, b2]
    | true =>
      cases h2 : hsI (rdB c f i) (nT T) with
      | false =>
        obtain ⟨b1, b2⟩ := bad (by rw [rdK, h1, h2]; rfl)
        rw [if_neg (by decide), if_pos rfl, sX6_firstWrongRead_78, if_pos rfl, b1, if_pos rfl, b2]
      | true =>
        rw [if_neg (by decide), if_neg (by decide), sX6_firstWrongRead_78, if_neg (by decide)]
        have e102 : rdK T c f i = true → ex (d + 2) 119 102 [some (vr 6 0 0), some (vi (nI k)), some (vi (nI f)), some (vi (nI W)), some (vi (nI i))] [] O = if rdX T c f sh i = true then some (rdV T c f i, O) else ex (d + 2) 119 3 [some (vr 6 0 0), some (vi (nI k)), some (vi (nI f)), some (vi (nI W)), some (vi (nI (i + 1)))] [] O := fun h => by
          rw [sX6_firstWrongRead_102, hsh, nI_add, nI_add, rdX, h, rdV, if_pos h]
          by_cases q : 24 ≤ sh + i
          · rw [if_neg (nI_nlt q (by omega))]; simp [q]
          · rw [if_pos (nI_lt (by omega) (by decide))]; simp [q]
        by_cases c0 : rdC c f i = nI 0
        · rw [if_pos c0]
          exact e102 (by rw [rdK, h1, h2, hs2, c0]; rfl)
        · rw [if_neg c0]
          by_cases c1 : rdC c f i = nI 1
          · rw [if_pos c1]
            exact e102 (by rw [rdK, h1, h2, hs2, c1]; rfl)
          · obtain ⟨b1, b2⟩ := bad (by rw [rdK, h1, h2, hs2, decide_eq_false c0, decide_eq_false c1]; rfl)
            rw [if_neg c1, b1, if_pos rfl, b2]
  · cases (List.range W).find? (rdX T c f sh) with
    | some i => rfl
    | none =>
      refine (sX6_firstWrongRead_3 ..).trans ?_
      rw [if_neg (nI_nlt (Nat.le_refl _) (by omega))]
/-- all showings of a sheet are taken: states -/
def rdT (A : A_) (c : Nat → Int32) (f i : Nat) : A_ := (A.1, rdS A.1 c f A.2.1 i, A.2.2)
theorem rd_ok {T : Td_} {c : Nat → Int32} {f sh W : Nat} (h : (List.range W).find? (rdX T c f sh) = none) {i : Nat} (hi : i < W) : rdK T c f i = true ∧ sh + i < 24 := by
  have := List.find?_eq_none.mp h i (List.mem_range.mpr hi)
  simp only [rdX, Bool.or_eq_true, Bool.not_eq_true', decide_eq_true_eq, not_or] at this
  exact ⟨by simpa using this.1, by omega⟩
theorem rdK_cl {T : Td_} {c : Nat → Int32} {f i : Nat} (wT : WT T) (h : rdK T c f i = true) : rdA c f i = nI (rdA c f i).toNatClampNeg ∧ (rdA c f i).toNatClampNeg < nS T ∧ rdB c f i = nI (rdB c f i).toNatClampNeg ∧ (rdB c f i).toNatClampNeg < nT T := by
  have h8 := wT.1
  have h4 := wT.2.2.1
  rw [rdK, Bool.and_eq_true, Bool.and_eq_true] at h
  have a := hsI_cl (by omega) h.1
  have b := hsI_cl (by omega) h.2.1
  exact ⟨a.1, a.2, b.1, b.2⟩
theorem rdT_wf {A : A_} {c : Nat → Int32} {f W : Nat} (hw : WA A) (h : (List.range W).find? (rdX A.1 c f A.2.1.1) = none) : ∀ i, i ≤ W → WA (rdT A c f i)
  | 0, _ => hw
  | i + 1, hi => by
    have ih := rdT_wf hw h i (by omega)
    obtain ⟨k1, k2⟩ := rd_ok h (show i < W by omega)
    obtain ⟨-, a, -, b⟩ := rdK_cl hw.1 k1
    exact WA.scene (A := A) hw (addS_wf ih.2.1 (by show (rdS A.1 c f A.2.1 i).1 < 24; rw [rdS_n]; exact k2) a b)
theorem m_read95 (d : Nat) {O : Mem_} {A : A_} {k f W n r : Nat} {c : Nat → Int32} (hw : WA A) (hc : CI O A) (hk : k < 4) (hf : f + 3 * W ≤ 40) (hr : r < 4) (hn : n < 14) (hcl : ∀ i, i < 40 → O 2 0 (4 + k) i = c i) (h : (List.range W).find? (rdX A.1 c f A.2.1.1) = none) : ∃ O1, ex (d + 6) 106 95 [some (vr 6 0 0), some (vi (nI k)), none, some (vi (nI f)), some (vi (nI n)), some (vi (nI r)), some (vi (nI W)), none, some (vi (nI 0))] [] O = some (nI W, up O1 6 0 0 9 (nI (if r = 0 then (if W < n then 2 else 0) else r))) ∧ CI O1 (rdT A c f W) ∧ O1 7 = O 7 ∧ O1 8 = O 8 := by
  obtain ⟨O1, e1, g1, g2, g3, g4⟩ := lp_i (fun i (O : Mem_) => ex (d + 6) 106 95 [some (vr 6 0 0), some (vi (nI k)), none, some (vi (nI f)), some (vi (nI n)), some (vi (nI r)), some (vi (nI W)), none, some (vi (nI i))] [] O) (fun i O' => CI O' (rdT A c f i) ∧ O' 7 = O 7 ∧ O' 8 = O 8 ∧ O' 2 = O 2) W (fun i O' hi ⟨g1, g2, g3, g4⟩ => by
    have hwi := rdT_wf hw h i (by omega)
    obtain ⟨k1, k2⟩ := rd_ok h hi
    obtain ⟨a1, a2, b1, b2⟩ := rdK_cl hw.1 k1
    obtain ⟨O2, e2, c2, c7, c8, -, cr⟩ := m_takeShowing (O := O') (A := rdT A c f i) (so := decide (rdC c f i = nI 1)) d hwi g1 (by show (rdS A.1 c f A.2.1 i).1 < 24; rw [rdS_n]; exact k2) a2 b2
    refine ⟨O2, ?_, c2, c7.trans g2, c8.trans g3, (cr 2 (by decide) (by decide)).trans g4⟩
    have hA : O' 2 0 (4 + k) (f + 3 * i) = rdA c f i := by rw [g4]; exact hcl _ (by omega)
    have hB : O' 2 0 (4 + k) (f + 3 * i + 1) = rdB c f i := by rw [g4]; exact hcl _ (by omega)
    have hC : O' 2 0 (4 + k) (f + 3 * i + 2) = rdC c f i := by rw [g4]; exact hcl _ (by omega)
    refine (sX6_read_95 ..).trans ?_
    simp (disch := omega) only [nI_ltI, nI_eq, nI_add, nI_clamp, ib_n, pk_mul, q_and, q_or, q_dn, q_shl, q_shlm, q_p1, if_true, if_false, ↓reduceIte, Option.bind_some, bI_0, bI_1, bI_01, b_or, Nat.not_lt_zero, Nat.zero_add, Bool.false_eq_true, Bool.true_eq_false, or_false, or_true, true_or, false_or, hi, m_cell (d + 4) hk, hA, hB, hC]
    rw [← a1, ← b1] at e2
    by_cases q : rdC c f i = nI 1
    · rw [decide_eq_true q, bI_t] at e2
      rw [if_pos q, sX6_read_154, e2]
      simp (disch := omega) only [nI_ltI, nI_eq, nI_add, nI_clamp, ib_n, pk_mul, q_and, q_or, q_dn, q_shl, q_shlm, q_p1, if_true, if_false, ↓reduceIte, Option.bind_some, bI_0, bI_1, bI_01, b_or, Nat.not_lt_zero, Nat.zero_add, Bool.false_eq_true, Bool.true_eq_false, or_false, or_true, true_or, false_or]
    · rw [decide_eq_false q, bI_f] at e2
      rw [if_neg q, sX6_read_154, e2]
      simp (disch := omega) only [nI_ltI, nI_eq, nI_add, nI_clamp, ib_n, pk_mul, q_and, q_or, q_dn, q_shl, q_shlm, q_p1, if_true, if_false, ↓reduceIte, Option.bind_some, bI_0, bI_1, bI_01, b_or, Nat.not_lt_zero, Nat.zero_add, Bool.false_eq_true, Bool.true_eq_false, or_false, or_true, true_or, false_or]) O ⟨hc, rfl, rfl, rfl⟩
  refine ⟨O1, e1.trans ((sX6_read_95 ..).trans ?_), g1, g2, g3⟩
  rw [if_neg (nI_nlt (Nat.le_refl _) (by omega))]
  simp (disch := omega) only [nI_ltI, nI_eq, nI_add, nI_clamp, ib_n, pk_mul, q_and, q_or, q_dn, q_shl, q_shlm, q_p1, if_true, if_false, ↓reduceIte, Option.bind_some, bI_0, bI_1, bI_01, b_or, Nat.not_lt_zero, Nat.zero_add, Bool.false_eq_true, Bool.true_eq_false, or_false, or_true, true_or, false_or]
  by_cases r0 : r = 0
  · rw [if_pos r0, if_pos r0]
    by_cases q : W < n
    · rw [if_pos q, if_pos q]
    · rw [if_neg q, if_neg q]
  · rw [if_neg r0, if_neg r0]
theorem CI.torn {O : Mem_} {A : A_} (v : Nat) (h : CI O A) : CI (up O 6 0 0 9 (nI v)) (A.1, A.2.1, A.2.2.1, A.2.2.2.1, A.2.2.2.2.1, A.2.2.2.2.2.1, v) := by
  obtain ⟨w, cw, c9, hT, hS, hI, hB, hM, hP, hF, hSh⟩ := h
  have r : ∀ c, c ≠ 6 → up O 6 0 0 9 (nI v) c = O c := fun c z => funext fun n => up_row (Or.inl z)
  refine ⟨w, ?_, up_eq .., by rw [r 4 (by decide)]; exact hT, by rw [r 1 (by decide)]; exact hS, by rw [r 1 (by decide)]; exact hI, by rw [r 1 (by decide)]; exact hB, by rw [r 0 (by decide)]; exact hM, by rw [r 3 (by decide)]; exact hP, by rw [r 3 (by decide)]; exact hF, by rw [r 2 (by decide)]; exact hSh⟩
  unfold CW
  rw [up_ne (by decide), up_ne (by decide)]
  exact cw
theorem MI.torn {O : Mem_} {A : A_} (v : Nat) (h : MI (O 7 0) A) : MI (up O 7 0 0 44 (nI v) 7 0) (A.1, A.2.1, A.2.2.1, A.2.2.2.1, A.2.2.2.2.1, A.2.2.2.2.2.1, v) := by
  obtain ⟨h1, h2, h3, h4, h5, h6, h7, h8⟩ := h
  have e : ∀ p q, ¬ (p = 0 ∧ q = 44) → up O 7 0 0 44 (nI v) 7 0 p q = O 7 0 p q := fun p q z => up_ne z
  exact ⟨h1.lo fun p q a b => e p q (by omega), h2.eq fun p q a b => e p q (by omega), fun i hi => (h3 i hi).of fun p q a b => e p q (by omega), h4.eq fun q => e _ _ (by omega), h5.of (e _ _ (by omega)) (fun q => e _ _ (by omega)), (e _ _ (by omega)).trans h6, h7.of fun p q a b => e p q (by omega), up_eq ..⟩
theorem WA.torn {A : A_} {v : Nat} (h : WA A) (hv : v < 10) : WA (A.1, A.2.1, A.2.2.1, A.2.2.2.1, A.2.2.2.2.1, A.2.2.2.2.2.1, v) := ⟨h.1, h.2.1, h.2.2.1, h.2.2.2.1, h.2.2.2.2.1, h.2.2.2.2.2.1, hv⟩
end
