/-! read, 2. -/
section
theorem rd_l (f i c : Nat) (hf : f < 1000) (hi : i < 1000) (hc : c < 1000) : Int32.toInt64 (nI f) + Int32.toInt64 (nI (3 * i)) + Int32.toInt64 (nI c) = Int32.toInt64 (nI (f + 3 * i + c)) := by
  rw [nI_l (by omega), nI_l (by omega), nI_l (by omega), nI_l (by omega), lN_add, lN_add]
theorem rd_0 (x : Int32) : Int32.toInt64 x + Int32.toInt64 (nI 3 * nI 0) + Int32.toInt64 (nI 0) = Int32.toInt64 x := by
  have e : Int32.toInt64 (nI 0) = 0 := by decide
  rw [show nI 3 * nI 0 = nI 0 by decide, e, Int64.add_zero, Int64.add_zero]
section
variable {O : Mem_}
/-- a whole showing of a sheet lies in it -/
theorem n_read47 (d : Nat) {k l f n i sz : Nat} (hk : k < 4) (hf : f + 3 * i + 3 ≤ sz) (hsz : sz ≤ 40) (hl : l < 3) (h42 : O 7 0 42 k = nI l) (h43 : O 7 0 43 k = nI sz) : ex (d + 1) 214 47 [some (vr 7 0 0), some (vi (nI k)), some (vi (nI l)), some (vi (nI f)), some (vi (nI n)), some (vi (nI 0)), some (vi (nI i)), some (vi (nI i)), some (vi (nI 0))] [] O = ex (d + 1) 214 134 [some (vr 7 0 0), some (vi (nI k)), some (vi (nI l)), some (vi (nI f)), some (vi (nI n)), some (vi (nI 0)), some (vi (nI i)), some (vi (nI i))] [] O := by
  have hne := oI_none (j := l) (by omega)
  have step : ∀ c, c < 3 → ex (d + 1) 214 47 [some (vr 7 0 0), some (vi (nI k)), some (vi (nI l)), some (vi (nI f)), some (vi (nI n)), some (vi (nI 0)), some (vi (nI i)), some (vi (nI i)), some (vi (nI c))] [] O = ex (d + 1) 214 47 [some (vr 7 0 0), some (vi (nI k)), some (vi (nI l)), some (vi (nI f)), some (vi (nI n)), some (vi (nI 0)), some (vi (nI i)), some (vi (nI i)), some (vi (nI (c + 1)))] [] O := fun c hc => by
    refine (sX7_read_47 ..).trans ?_
    have e1 : ¬ (lg_cmp (Int32.toInt64 (nI f) + Int32.toInt64 (nI (3 * i)) + Int32.toInt64 (nI c)) 0 < nI 0) := by
      rw [rd_l f i c (by omega) (by omega) (by omega), show (0 : Int64) = Int32.toInt64 (nI 0) by decide, lg_lt, i64_lt, nI_ltI (by omega) (by decide)]
      omega
    have e2 : lg_cmp (Int32.toInt64 (nI f) + Int32.toInt64 (nI (3 * i)) + Int32.toInt64 (nI c)) (Int32.toInt64 (nI sz)) < nI 0 := by
      rw [rd_l f i c (by omega) (by omega) (by omega), lg_lt, i64_lt, nI_ltI (by omega) (by omega)]
      omega
    rw [if_pos (nI_lt hc (by decide)), if_pos rfl, nI_clamp (by omega), if_pos (ib_n hk (by decide)), h42, if_neg hne, if_pos (ib_n hk (by decide)), if_pos rfl, pk_mul, if_neg e1, if_pos (ib_n hk (by decide)), h43, if_pos e2, nI_add]
  rw [step 0 (by decide), step 1 (by decide), step 2 (by decide)]
  refine (sX7_read_47 ..).trans ?_
  rw [if_neg (by decide)]
theorem n_read239 (d : Nat) {A : A_} {k f W : Nat} {c : Nat → Int32} (hw : WA A) (hm : MI (O 7 0) A) (hk : k < 4) (hf : f + 3 * W ≤ 40) (hcl : ∀ i, i < 40 → O 7 0 44 (40 * k + i) = c i) (h : (List.range W).find? (rdX A.1 c f A.2.1.1) = none) : ∃ O1, ex (d + 8) 214 239 [some (vr 7 0 0), some (vi (nI k)), none, some (vi (nI f)), none, none, some (vi (nI W)), some (vi (nI 0))] [] O = some (nI W, O1) ∧ MI (O1 7 0) (rdT A c f W) ∧ ∀ c, c ≠ 7 → O1 c = O c := by
  obtain ⟨O1, e1, g1, g2, g3⟩ := lp_i (fun i (O : Mem_) => ex (d + 8) 214 239 [some (vr 7 0 0), some (vi (nI k)), none, some (vi (nI f)), none, none, some (vi (nI W)), some (vi (nI i))] [] O) (fun i O' => MI (O' 7 0) (rdT A c f i) ∧ (∀ c, c ≠ 7 → O' c = O c) ∧ ∀ p q, 42 ≤ p → O' 7 0 p q = O 7 0 p q) W (fun i O' hi ⟨g1, g2, g3⟩ => by
    have hwi := rdT_wf hw h i (by omega)
    obtain ⟨k1, k2⟩ := rd_ok h hi
    obtain ⟨a1, a2, b1, b2⟩ := rdK_cl hw.1 k1
    obtain ⟨O2, e2, m2, c7, c42⟩ := n_adds (O := O') (A := rdT A c f i) (so := decide (rdC c f i = nI 1)) d hwi g1 (by show (rdS A.1 c f A.2.1 i).1 < 24; rw [rdS_n]; exact k2) a2 b2
    refine ⟨O2, ?_, m2, fun c z => (c7 c z).trans (g2 c z), fun p q z => (c42 p q z).trans (g3 p q z)⟩
    have hA : O' 7 0 44 (40 * k + f + 3 * i) = rdA c f i := by rw [g3 _ _ (by decide), Nat.add_assoc]; exact hcl _ (by omega)
    have hB : O' 7 0 44 (40 * k + f + 3 * i + 1) = rdB c f i := by rw [g3 _ _ (by decide), show 40 * k + f + 3 * i + 1 = 40 * k + (f + 3 * i + 1) by omega]; exact hcl _ (by omega)
    have hC : O' 7 0 44 (40 * k + f + 3 * i + 2) = rdC c f i := by rw [g3 _ _ (by decide), show 40 * k + f + 3 * i + 2 = 40 * k + (f + 3 * i + 2) by omega]; exact hcl _ (by omega)
    refine (sX7_read_239 ..).trans ?_
    simp (disch := omega) only [nI_ltI, nI_eq, nI_add, nI_clamp, ib_n, pk_mul, q_and, q_or, q_dn, q_shl, q_shlm, q_p1, if_true, if_false, ↓reduceIte, Option.bind_some, bI_0, bI_1, bI_01, b_or, Nat.not_lt_zero, Nat.zero_add, Bool.false_eq_true, Bool.true_eq_false, or_false, or_true, true_or, false_or, hi, hA, hB, hC]
    rw [← a1, ← b1] at e2
    by_cases q : rdC c f i = nI 1
    · rw [decide_eq_true q, bI_t] at e2
      rw [if_pos q, sX7_read_294, e2]
      simp (disch := omega) only [nI_ltI, nI_eq, nI_add, nI_clamp, ib_n, pk_mul, q_and, q_or, q_dn, q_shl, q_shlm, q_p1, if_true, if_false, ↓reduceIte, Option.bind_some, bI_0, bI_1, bI_01, b_or, Nat.not_lt_zero, Nat.zero_add, Bool.false_eq_true, Bool.true_eq_false, or_false, or_true, true_or, false_or]
    · rw [decide_eq_false q, bI_f] at e2
      rw [if_neg q, sX7_read_294, e2]
      simp (disch := omega) only [nI_ltI, nI_eq, nI_add, nI_clamp, ib_n, pk_mul, q_and, q_or, q_dn, q_shl, q_shlm, q_p1, if_true, if_false, ↓reduceIte, Option.bind_some, bI_0, bI_1, bI_01, b_or, Nat.not_lt_zero, Nat.zero_add, Bool.false_eq_true, Bool.true_eq_false, or_false, or_true, true_or, false_or]) O ⟨hm, fun _ _ => rfl, fun _ _ _ => rfl⟩
  refine ⟨O1, e1.trans ((sX7_read_239 ..).trans ?_), g1, g2⟩
  rw [if_neg (nI_nlt (Nat.le_refl _) (by omega))]
/-- the scan of a sheet's whole showings -/
theorem n_read32 (d : Nat) {T : Td_} {k l f n sz W sh : Nat} {c : Nat → Int32} (hk : k < 4) (hl : l < 3) (hsz : sz ≤ 40) (hf : f + 3 * W ≤ sz) (hW : W ≤ n) (hn : n < 14) (mT : MT (O 7 0) T) (wT : WT T) (h42 : O 7 0 42 k = nI l) (h43 : O 7 0 43 k = nI sz) (hcl : ∀ i, i < 40 → O 7 0 44 (40 * k + i) = c i) (hsh : O 7 0 0 28 = nI sh) (hsh2 : sh ≤ 24) : ex (d + 3) 214 32 [some (vr 7 0 0), some (vi (nI k)), some (vi (nI l)), some (vi (nI f)), some (vi (nI n)), some (vi (nI 0)), some (vi (nI 0)), some (vi (nI 0))] [] O = match (List.range W).find? (rdX T c f sh) with
    | some i => some (rdV T c f i, O)
    | none => ex (d + 3) 214 32 [some (vr 7 0 0), some (vi (nI k)), some (vi (nI l)), some (vi (nI f)), some (vi (nI n)), some (vi (nI 0)), some (vi (nI W)), some (vi (nI W))] [] O := by
  have key : ∀ i, i < W → sh + i ≤ 24 → ex (d + 3) 214 32 [some (vr 7 0 0), some (vi (nI k)), some (vi (nI l)), some (vi (nI f)), some (vi (nI n)), some (vi (nI 0)), some (vi (nI i)), some (vi (nI i))] [] O = if rdX T c f sh i = true then some (rdV T c f i, O) else ex (d + 3) 214 32 [some (vr 7 0 0), some (vi (nI k)), some (vi (nI l)), some (vi (nI f)), some (vi (nI n)), some (vi (nI 0)), some (vi (nI (i + 1))), some (vi (nI (i + 1)))] [] O := by
    intro i hi hs
    have hA : O 7 0 44 (40 * k + f + 3 * i) = rdA c f i := by rw [Nat.add_assoc]; exact hcl _ (by omega)
    have hB : O 7 0 44 (40 * k + f + 3 * i + 1) = rdB c f i := by rw [show 40 * k + f + 3 * i + 1 = 40 * k + (f + 3 * i + 1) by omega]; exact hcl _ (by omega)
    have hC : O 7 0 44 (40 * k + f + 3 * i + 2) = rdC c f i := by rw [show 40 * k + f + 3 * i + 2 = 40 * k + (f + 3 * i + 2) by omega]; exact hcl _ (by omega)
    have bad : rdK T c f i = false → rdX T c f sh i = true ∧ rdV T c f i = (-20) - nI i := fun h => ⟨by rw [rdX, h]; rfl, by rw [rdV, h, if_neg (by decide)]⟩
    refine (sX7_read_32 ..).trans ?_
    rw [if_pos (nI_lt (by omega) (by omega)), if_pos rfl, n_read47 (d + 2) hk (by omega) hsz hl h42 h43]
    refine (sX7_read_134 ..).trans ?_
    simp (disch := omega) only [nI_ltI, nI_eq, nI_add, nI_clamp, ib_n, pk_mul, q_and, q_or, q_dn, q_shl, q_shlm, q_p1, if_true, if_false, ↓reduceIte, Option.bind_some, bI_0, bI_1, bI_01, b_or, Nat.not_lt_zero, Nat.zero_add, Bool.false_eq_true, Bool.true_eq_false, or_false, or_true, true_or, false_or, hA, n_isSound d _ mT wT]
    cases h1 : hsI (rdA c f i) (nS T) with
    | false =>
      obtain ⟨b1, b2⟩ := bad (by rw [rdK, h1]; rfl)
      rw [if_pos rfl, b1, if_pos rfl, b2]
    | true =>
      rw [if_neg (by decide)]
      simp (disch := omega) only [nI_ltI, nI_eq, nI_add, nI_clamp, ib_n, pk_mul, q_and, q_or, q_dn, q_shl, q_shlm, q_p1, if_true, if_false, ↓reduceIte, Option.bind_some, bI_0, bI_1, bI_01, b_or, Nat.not_lt_zero, Nat.zero_add, Bool.false_eq_true, Bool.true_eq_false, or_false, or_true, true_or, false_or, hB, n_isThing d _ mT wT]
      cases h2 : hsI (rdB c f i) (nT T) with
      | false =>
        obtain ⟨b1, b2⟩ := bad (by rw [rdK, h1, h2]; rfl)
        rw [if_pos rfl, b1, if_pos rfl, b2]
      | true =>
        rw [if_neg (by decide)]
        simp (disch := omega) only [nI_ltI, nI_eq, nI_add, nI_clamp, ib_n, pk_mul, q_and, q_or, q_dn, q_shl, q_shlm, q_p1, if_true, if_false, ↓reduceIte, Option.bind_some, bI_0, bI_1, bI_01, b_or, Nat.not_lt_zero, Nat.zero_add, Bool.false_eq_true, Bool.true_eq_false, or_false, or_true, true_or, false_or, hC, m_in _ _ (rdC c f i) (nI 0) (nI 1) (a := 0) (b := 1) (by decide) (by decide), inI_c]
        cases h3 : hsI (rdC c f i) 2 with
        | false =>
          obtain ⟨b1, b2⟩ := bad (by rw [rdK, h1, h2, h3]; rfl)
          rw [if_pos rfl, b1, if_pos rfl, b2]
        | true =>
          have hK : rdK T c f i = true := by rw [rdK, h1, h2, h3]; rfl
          rw [if_neg (by decide), hsh, nI_add, rdX, hK, rdV, if_pos hK]
          by_cases q : 24 ≤ sh + i
          · rw [if_pos (by rw [show sh + i = 24 by omega])]
            simp [q]
          · rw [if_neg (by rw [nI_eq (by omega) (by decide)]; omega)]
            simp [q]
  have all : ∀ m i, i + m = W → sh + i ≤ 24 → ex (d + 3) 214 32 [some (vr 7 0 0), some (vi (nI k)), some (vi (nI l)), some (vi (nI f)), some (vi (nI n)), some (vi (nI 0)), some (vi (nI i)), some (vi (nI i))] [] O = match (List.range' i m).find? (rdX T c f sh) with
      | some i => some (rdV T c f i, O)
      | none => ex (d + 3) 214 32 [some (vr 7 0 0), some (vi (nI k)), some (vi (nI l)), some (vi (nI f)), some (vi (nI n)), some (vi (nI 0)), some (vi (nI W)), some (vi (nI W))] [] O := by
    intro m
    induction m with
    | zero => intro i hi _; rw [show i = W by omega]; rfl
    | succ m ih =>
      intro i hi hs
      rw [key i (by omega) hs, List.range'_succ, List.find?_cons]
      cases hx : rdX T c f sh i with
      | true => simp
      | false =>
        have : sh + i < 24 := by
          simp only [rdX, Bool.or_eq_false_iff, decide_eq_false_iff_not] at hx
          omega
        simp only [Bool.false_eq_true, if_false]
        exact ih (i + 1) (by omega) (by omega)
  rw [all W 0 (by omega) (by omega), List.range_eq_range']
end
end
