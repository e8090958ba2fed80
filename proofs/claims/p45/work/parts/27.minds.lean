/-! THE CLASS'S MINDS. -/
section
variable {T : Td_} {O : Mem_} {n i : Nat}
/-- a kind's cells -/
def KM (R : Nat → Nat → Int32) (k : Nat) (μ : Mi_) : Prop := (∀ s, s < 4 → R 2 (k * 4 + s) = oI (μ.1 s) ∧ R 3 (k * 4 + s) = nI (μ.2.1 s)) ∧ R 4 k = oI μ.2.2.1 ∧ R 5 k = oI μ.2.2.2
/-- R' is R but for a kind's cells -/
def KX (k : Nat) (R R' : Nat → Nat → Int32) : Prop := ∀ p q, ¬ (p = 2 ∧ k * 4 ≤ q ∧ q < k * 4 + 4) → ¬ (p = 3 ∧ k * 4 ≤ q ∧ q < k * 4 + 4) → ¬ (p = 4 ∧ q = k) → ¬ (p = 5 ∧ q = k) → R' p q = R p q
theorem KX.km {k k' : Nat} {R R' : Nat → Nat → Int32} {μ : Mi_} (h : KX k R R') (hk : k' ≠ k) (hm : KM R k' μ) : KM R' k' μ := by
  refine ⟨fun s hs => ?_, ?_, ?_⟩
  · rw [h 2 _ (by omega) (by omega) (by omega) (by omega), h 3 _ (by omega) (by omega) (by omega) (by omega)]
    exact hm.1 s hs
  · rw [h 4 _ (by omega) (by omega) (by omega) (by omega)]; exact hm.2.1
  · rw [h 5 _ (by omega) (by omega) (by omega) (by omega)]; exact hm.2.2
/-- a mind of meanings that are told -/
def WMi (T : Td_) (μ : Mi_) : Prop := (∀ s m, μ.1 s = some m → m < nM T) ∧ (∀ s, μ.2.1 s < 2) ∧ (∀ m, μ.2.2.1 = some m → m < nM T) ∧ ∀ j, μ.2.2.2 = some j → j < 1000
theorem plainest_lt {b m : Nat} (h : plainest T b = some m) : m < nM T ∧ b.testBit m = true := ⟨mem_fpl (List.mem_of_find?_eq_some h), List.find?_some (p := fun m => b.testBit m) h⟩
theorem thk_wf {k s t : Nat} {so : Bool} {f : Nat} {μ : Mi_} (h : WMi T μ) : (∀ m, (thk T k s t so f μ).1 = some m → m < nM T) ∧ (thk T k s t so f μ).2 < 2 := by
  have hp : ∀ b m, plainest T b = some m → m < nM T := fun b m q => (plainest_lt q).1
  have hw := h.2.1 s
  unfold thk
  dsimp only
  split
  · refine ⟨fun m q => ?_, hw⟩
    dsimp only at q
    split at q
    · exact h.2.2.1 m q
    · exact hp _ _ q
  · split
    · refine ⟨fun m q => ?_, hw⟩
      dsimp only at q
      split at q
      · exact hp _ _ q
      · cases q
    · split
      · by_cases hc : ((μ.1 s).isNone || decide (2 ≤ if (μ.1 s).isSome && !inO (μ.1 s) (fitg T t so) then μ.2.1 s + 1 else μ.2.1 s)) = true
        · rw [if_pos hc]; exact ⟨hp _, Nat.zero_lt_two⟩
        · rw [if_neg hc]
          refine ⟨h.1 s, ?_⟩
          simp only [Bool.or_eq_true, decide_eq_true_eq, not_or] at hc
          exact Nat.lt_of_not_le hc.2
      · exact ⟨hp _, hw⟩
theorem see1_wf {k s t : Nat} {so : Bool} {j f : Nat} {μ : Mi_} (hj : j < 1000) (h : WMi T μ) : WMi T (see1 T k s t so j f μ) := by
  unfold see1
  split
  · exact h
  · split
    · exact ⟨fun _ _ q => absurd q (by simp), fun _ => Nat.zero_lt_two, h.2.2.1, fun q e => (by cases e; exact hj)⟩
    · obtain ⟨h1, h2⟩ := thk_wf (k := k) (s := s) (t := t) (so := so) (f := f) h
      refine ⟨fun q m e => ?_, fun q => ?_, fun m e => ?_, h.2.2.2⟩
      · simp only [look1, upF] at e
        split at e
        · exact h1 m e
        · exact h.1 q m e
      · simp only [look1, upF]
        split
        · exact h2
        · exact h.2.1 q
      · simp only [look1] at e
        cases hq : (thk T k s t so f μ).1 with
        | none => rw [hq] at e; exact h.2.2.1 m e
        | some x => rw [hq] at e; cases e; exact h1 _ hq
theorem o31 {o : Option Nat} {N : Nat} (hN : N ≤ 31) (h : ∀ m, o = some m → m < N) : ∀ m, o = some m → m < 31 := fun m e => Nat.lt_of_lt_of_le (h m e) hN
theorem oBig {o : Option Nat} {N : Nat} (hN : N ≤ 2 ^ 31) (h : ∀ m, o = some m → m < N) : ∀ m, o = some m → m < 2 ^ 31 := fun m e => Nat.lt_of_lt_of_le (h m e) hN
theorem m_thoughtOf (d : Nat) {k s : Nat} {μ : Mi_} (hk : k < 6) (hs : s < 4) (h : KM (O 0 i) k μ) : ex (d + 1) 7 0 [some (vr 0 i 0), some (vi (nI k)), some (vi (nI s))] [] O = some (oI (μ.1 s), O) := by
  rw [sX0_thoughtOf_0]
  simp (disch := omega) only [nI_ltI, nI_eq, nI_add, nI_clamp, ib_n, pk_mul, q_and, q_or, q_dn, q_shl, q_shlm, q_p1, if_true, if_false, ↓reduceIte, Option.bind_some, bI_0, bI_1, bI_01, b_or, Nat.not_lt_zero, Nat.zero_add, Bool.false_eq_true, Bool.true_eq_false, or_false, or_true, true_or, false_or, (h.1 s hs).1]
  rw [if_pos (by omega)]
theorem m_choices (d : Nat) {k s f : Nat} {μ : Mi_} (hk : k < nK T) (hs : s < nS T) (hf : f < 4096) (hF : O 0 i 6 s = nI f) (h : CT (O 4 n) T) (hT : WT T) (hm : KM (O 0 i) k μ) (hw : WMi T μ) : ex (d + 2) 6 0 [some (vr 0 i 0), some (vr 4 n 0), some (vi (nI k)), some (vi (nI s))] [] O = some (nI (chs T f k s μ.1), O) := by
  have h6 := hT.2.2.2.1
  have h4 := hT.2.2.1
  have h12 := hT.2.1
  have hc := can_lt hT k
  have hfc : f &&& can T k < 4096 := Nat.lt_of_le_of_lt Nat.and_le_left hf
  rw [sX0_choices_0]
  simp (disch := omega) only [nI_ltI, nI_eq, nI_add, nI_clamp, ib_n, pk_mul, q_and, q_or, q_dn, q_shl, q_shlm, q_p1, if_true, if_false, ↓reduceIte, Option.bind_some, bI_0, bI_1, bI_01, b_or, Nat.not_lt_zero, Nat.zero_add, Bool.false_eq_true, Bool.true_eq_false, or_false, or_true, true_or, false_or, hF, (h.2.2.2.2 k hk).2.2.2.2.2]
  cases hu : ul_ T k with
  | false =>
    refine (sX0_choices_18 ..).trans ?_
    simp (disch := omega) only [nI_ltI, nI_eq, nI_add, nI_clamp, ib_n, pk_mul, q_and, q_or, q_dn, q_shl, q_shlm, q_p1, if_true, if_false, ↓reduceIte, Option.bind_some, bI_0, bI_1, bI_01, b_or, Nat.not_lt_zero, Nat.zero_add, Bool.false_eq_true, Bool.true_eq_false, or_false, or_true, true_or, false_or, h.1.2.2.1, (h.2.2.2.2 k hk).2.2.2.1, hu]
    have e : f &&& can T k = chs T f k s μ.1 := ms_eq (n := 12) hfc (fun m _ => by rw [Nat.testBit_and, taken, hu]; simp)
    rw [← e]
    simp only [ite_self]
  | true =>
    refine Exists.elim (lp_i (fun q a => ex (d + 2) 6 18 [some (vr 0 i 0), some (vr 4 n 0), some (vi (nI k)), some (vi (nI s)), some (vi (nI a)), some (vi (nI q))] [] O) (fun q a => a < 4096 ∧ ∀ m, m < 12 → a.testBit m = ((f.testBit m && (can T k).testBit m) && !(List.range q).any fun q => q != s && μ.1 q == some m)) (nS T) ?_ (f &&& can T k) ⟨hfc, fun m _ => by rw [Nat.testBit_and]; simp⟩) ?_
    · intro q a hq ha
      have hth := m_thoughtOf (O := O) (i := i) d (k := k) (s := q) (μ := μ) (by omega) (by omega) hm
      by_cases hqs : q = s
      · subst hqs
        refine ⟨a, ?_, ha.1, fun m hm => ?_⟩
        · refine (sX0_choices_18 ..).trans ?_
          simp (disch := omega) only [nI_ltI, nI_eq, nI_add, nI_clamp, ib_n, pk_mul, q_and, q_or, q_dn, q_shl, q_shlm, q_p1, if_true, if_false, ↓reduceIte, Option.bind_some, bI_0, bI_1, bI_01, b_or, Nat.not_lt_zero, Nat.zero_add, Bool.false_eq_true, Bool.true_eq_false, or_false, or_true, true_or, false_or, h.1.2.2.1, (h.2.2.2.2 k hk).2.2.2.1, hu, hq, hth]
        · rw [ha.2 m hm, List.range_succ, List.any_append]
          simp
      · cases ht : μ.1 q with
        | none =>
          refine ⟨a, ?_, ha.1, fun m hm => ?_⟩
          · refine (sX0_choices_18 ..).trans ?_
            simp (disch := omega) only [nI_ltI, nI_eq, nI_add, nI_clamp, ib_n, pk_mul, q_and, q_or, q_dn, q_shl, q_shlm, q_p1, if_true, if_false, ↓reduceIte, Option.bind_some, bI_0, bI_1, bI_01, b_or, Nat.not_lt_zero, Nat.zero_add, Bool.false_eq_true, Bool.true_eq_false, or_false, or_true, true_or, false_or, h.1.2.2.1, (h.2.2.2.2 k hk).2.2.2.1, hu, hq, hth, hqs, ht]
          · rw [ha.2 m hm, List.range_succ, List.any_append]
            simp [ht]
        | some x =>
          have hx := hw.1 q x ht
          refine ⟨dn a (2 ^ x), ?_, Nat.lt_of_le_of_lt (dn_le _ _) ha.1, fun m hm => ?_⟩
          · refine (sX0_choices_18 ..).trans ?_
            have hn := oI_none (j := x) (by omega)
            simp (disch := omega) only [nI_ltI, nI_eq, nI_add, nI_clamp, ib_n, pk_mul, q_and, q_or, q_dn, q_shl, q_shlm, q_p1, if_true, if_false, ↓reduceIte, Option.bind_some, bI_0, bI_1, bI_01, b_or, Nat.not_lt_zero, Nat.zero_add, Bool.false_eq_true, Bool.true_eq_false, or_false, or_true, true_or, false_or, h.1.2.2.1, (h.2.2.2.2 k hk).2.2.2.1, hu, hq, hth, hqs, ht]
            simp only [oI] at hn ⊢
            simp (disch := omega) only [nI_ltI, nI_eq, nI_add, nI_clamp, ib_n, pk_mul, q_and, q_or, q_dn, q_shl, q_shlm, q_p1, if_true, if_false, ↓reduceIte, Option.bind_some, bI_0, bI_1, bI_01, b_or, Nat.not_lt_zero, Nat.zero_add, Bool.false_eq_true, Bool.true_eq_false, or_false, or_true, true_or, false_or, hn]
          · rw [dn_bit, ha.2 m hm, List.range_succ, List.any_append]
            by_cases hxm : x = m
            · subst hxm; simp [ht, hqs]
            · have hb2 : (x == m) = false := beq_false_of_ne hxm
              simp [ht, Nat.testBit_two_pow_of_ne hxm, hb2]
    · rintro a ⟨e, ha, hb⟩
      refine e.trans ?_
      refine (sX0_choices_18 ..).trans ?_
      simp (disch := omega) only [nI_ltI, nI_eq, nI_add, nI_clamp, ib_n, pk_mul, q_and, q_or, q_dn, q_shl, q_shlm, q_p1, if_true, if_false, ↓reduceIte, Option.bind_some, bI_0, bI_1, bI_01, b_or, Nat.not_lt_zero, Nat.zero_add, Bool.false_eq_true, Bool.true_eq_false, or_false, or_true, true_or, false_or, h.1.2.2.1, Nat.lt_irrefl]
      have e2 : a = chs T f k s μ.1 := ms_eq (n := 12) ha (fun m hm => by rw [hb m hm, taken, hu, Bool.true_and])
      rw [e2]
theorem m_isSame (d : Nat) {k s : Nat} {M : Md_} (hk : k < nK T) (hs : s < nS T) (h : CT (O 4 n) T) (hT : WT T) (hm : KM (O 0 i) k (M.2 k)) (hw : WMi T (M.2 k)) : ex (d + 3) 8 0 [some (vr 0 i 0), some (vr 4 n 0), some (vi (nI k)), some (vi (nI s))] [] O = some (bI (sam T M k s), O) := by
  have h6 := hT.2.2.2.1
  have h4 := hT.2.2.1
  have h12 := hT.2.1
  have := tgL_lt hT s
  rw [sX0_isSame_0, m_thoughtOf (d + 1) (by omega) (by omega) hm]
  simp only [Option.bind_some]
  rw [m_likeTarget _ hs h hT]
  simp only [Option.bind_some]
  rw [m_isInO _ _ (o31 (by omega) (hw.1 s)) (by omega)]
  simp (disch := omega) only [nI_ltI, nI_eq, nI_add, nI_clamp, ib_n, pk_mul, q_and, q_or, q_dn, q_shl, q_shlm, q_p1, if_true, if_false, ↓reduceIte, Option.bind_some, bI_0, bI_1, bI_01, b_or, Nat.not_lt_zero, Nat.zero_add, Bool.false_eq_true, Bool.true_eq_false, or_false, or_true, true_or, false_or]
  rfl
theorem m_isSameForAll (d : Nat) {K s : Nat} {M : Md_} (hK : K < 2 ^ 31) (hs : s < nS T) (h : CT (O 4 n) T) (hT : WT T) (hm : ∀ k, k < nK T → K.testBit k = true → KM (O 0 i) k (M.2 k)) (hw : ∀ k, WMi T (M.2 k)) : ex (d + 4) 9 0 [some (vr 0 i 0), some (vr 4 n 0), some (vi (nI K)), some (vi (nI s))] [] O = some (bI (samA T M K s), O) := by
  have h6 := hT.2.2.2.1
  rw [sX0_isSameForAll_0]
  refine (lp_f (fun k => ex (d + 4) 9 3 [some (vr 0 i 0), some (vr 4 n 0), some (vi (nI K)), some (vi (nI s)), some (vi (nI k))] [] O) (fun k => K.testBit k && !sam T M k s) (fun _ => some (nI 0, O)) (nK T) (fun k hk => ?_)).trans ?_
  · refine (sX0_isSameForAll_3 ..).trans ?_
    simp (disch := omega) only [nI_ltI, nI_eq, nI_add, nI_clamp, ib_n, pk_mul, q_and, q_or, q_dn, q_shl, q_shlm, q_p1, if_true, if_false, ↓reduceIte, Option.bind_some, bI_0, bI_1, bI_01, b_or, Nat.not_lt_zero, Nat.zero_add, Bool.false_eq_true, Bool.true_eq_false, or_false, or_true, true_or, false_or, h.1.2.2.2, m_isIn, hk]
    cases hb : K.testBit k with
    | false => simp
    | true =>
      simp (disch := omega) only [nI_ltI, nI_eq, nI_add, nI_clamp, ib_n, pk_mul, q_and, q_or, q_dn, q_shl, q_shlm, q_p1, if_true, if_false, ↓reduceIte, Option.bind_some, bI_0, bI_1, bI_01, b_or, Nat.not_lt_zero, Nat.zero_add, Bool.false_eq_true, Bool.true_eq_false, or_false, or_true, true_or, false_or, m_isSame (d := d) hk hs h hT (hm k hk hb) (hw k)]
      cases sam T M k s <;> simp
  · unfold samA
    cases hf : (List.range (nK T)).find? (fun k => K.testBit k && !sam T M k s) with
    | none =>
      refine (sX0_isSameForAll_3 ..).trans ?_
      simp (disch := omega) only [nI_ltI, nI_eq, nI_add, nI_clamp, ib_n, pk_mul, q_and, q_or, q_dn, q_shl, q_shlm, q_p1, if_true, if_false, ↓reduceIte, Option.bind_some, bI_0, bI_1, bI_01, b_or, Nat.not_lt_zero, Nat.zero_add, Bool.false_eq_true, Bool.true_eq_false, or_false, or_true, true_or, false_or, h.1.2.2.2, Nat.lt_irrefl]
      rw [List.find?_eq_none] at hf
      rw [List.all_eq_true.mpr]
      · rfl
      · intro k hk
        have := hf k hk
        cases hb : K.testBit k <;> cases hc : sam T M k s <;> simp_all
    | some k =>
      have h1 := List.find?_some hf
      have h2 := List.mem_of_find?_eq_some hf
      have : ((List.range (nK T)).all fun k => !K.testBit k || sam T M k s) = false := by
        rw [List.all_eq_false]
        refine ⟨k, h2, ?_⟩
        simp only [Bool.and_eq_true, Bool.not_eq_true'] at h1
        simp [h1.1, h1.2]
      rw [this]; rfl
theorem m_chanceOfSame (d : Nat) {s : Nat} {M : Md_} (hs : s < nS T) (h : CT (O 4 n) T) (hT : WT T) (hm : ∀ k, k < nK T → KM (O 0 i) k (M.2 k)) (hw : ∀ k, WMi T (M.2 k)) : ex (d + 4) 10 0 [some (vr 0 i 0), some (vr 4 n 0), some (vi (nI s))] [] O = some (nI (sm (nK T) fun k => if sam T M k s then ch_ T k else 0), O) := by
  have h6 := hT.2.2.2.1
  rw [sX0_chanceOfSame_0]
  refine (lp_n (fun k a => ex (d + 4) 10 5 [some (vr 0 i 0), some (vr 4 n 0), some (vi (nI s)), some (vi (nI a)), some (vi (nI k))] [] O) (fun k a => a + (if sam T M k s then ch_ T k else 0)) (nK T) (fun k a hk => ?_) 0).trans ?_
  · refine (sX0_chanceOfSame_5 ..).trans ?_
    simp (disch := omega) only [nI_ltI, nI_eq, nI_add, nI_clamp, ib_n, pk_mul, q_and, q_or, q_dn, q_shl, q_shlm, q_p1, if_true, if_false, ↓reduceIte, Option.bind_some, bI_0, bI_1, bI_01, b_or, Nat.not_lt_zero, Nat.zero_add, Bool.false_eq_true, Bool.true_eq_false, or_false, or_true, true_or, false_or, h.1.2.2.2, (h.2.2.2.2 k hk).2.2.2.2.1, m_isSame (d := d) hk hs h hT (hm k hk) (hw k), hk]
    cases sam T M k s <;> simp
  · refine (sX0_chanceOfSame_5 ..).trans ?_
    simp (disch := omega) only [nI_ltI, nI_eq, nI_add, nI_clamp, ib_n, pk_mul, q_and, q_or, q_dn, q_shl, q_shlm, q_p1, if_true, if_false, ↓reduceIte, Option.bind_some, bI_0, bI_1, bI_01, b_or, Nat.not_lt_zero, Nat.zero_add, Bool.false_eq_true, Bool.true_eq_false, or_false, or_true, true_or, false_or, h.1.2.2.2, Nat.lt_irrefl, itn_sm]
theorem m_answerOf (d : Nat) {k s t : Nat} {M : Md_} (hk : k < nK T) (hs : s < nS T) (ht : t < 31) (h : CT (O 4 n) T) (hT : WT T) (hm : KM (O 0 i) k (M.2 k)) (hw : WMi T (M.2 k)) : ex (d + 2) 11 0 [some (vr 0 i 0), some (vr 4 n 0), some (vi (nI k)), some (vi (nI s)), some (vi (nI t))] [] O = some (oI (ans T M k s t), O) := by
  have h6 := hT.2.2.2.1
  have h4 := hT.2.2.1
  have h12 := hT.2.1
  rw [sX0_answerOf_0, m_thoughtOf d (by omega) (by omega) hm]
  simp only [Option.bind_some]
  cases e : (M.2 k).1 s with
  | none =>
    simp (disch := omega) only [nI_ltI, nI_eq, nI_add, nI_clamp, ib_n, pk_mul, q_and, q_or, q_dn, q_shl, q_shlm, q_p1, if_true, if_false, ↓reduceIte, Option.bind_some, bI_0, bI_1, bI_01, b_or, Nat.not_lt_zero, Nat.zero_add, Bool.false_eq_true, Bool.true_eq_false, or_false, or_true, true_or, false_or, m_hasMeaning (h := h), hsI_none]
    simp [ans, e]
  | some m =>
    have hmm := hw.1 s m e
    have := are_lt hT m
    simp only [oI]
    simp (disch := omega) only [nI_ltI, nI_eq, nI_add, nI_clamp, ib_n, pk_mul, q_and, q_or, q_dn, q_shl, q_shlm, q_p1, if_true, if_false, ↓reduceIte, Option.bind_some, bI_0, bI_1, bI_01, b_or, Nat.not_lt_zero, Nat.zero_add, Bool.false_eq_true, Bool.true_eq_false, or_false, or_true, true_or, false_or, m_hasMeaning (h := h), hsI_n, hmm, decide_true, (h.2.2.1 m hmm).2.2.2.1, m_isIn]
    simp only [ans, e, Option.map_some, oI]
    cases (are T m).testBit t <;> simp
theorem oI_ans {k s t : Nat} {M : Md_} {a : Option Nat} (ha : ∀ j, a = some j → j < 2) : oI (ans T M k s t) = oI a ↔ ans T M k s t = a := by
  refine oI_inj (fun j e => ?_) (fun j e => by have := ha j e; omega)
  unfold ans at e
  cases q : (M.2 k).1 s with
  | none => rw [q] at e; cases e
  | some m =>
    rw [q] at e
    have e : ((are T m).testBit t).toNat = j := Option.some.inj e
    have : ((are T m).testBit t).toNat < 2 := by cases (are T m).testBit t <;> decide
    omega
/-- the tail of look -/
theorem m_look196 (d : Nat) {k j : Nat} {th th0 la0 : Option Nat} {w w0 : Nat} (hk : k < 6) (hj : j < 24) (b1 : ∀ m, th = some m → m < 2 ^ 31) (b2 : ∀ m, th0 = some m → m < 2 ^ 31) (b3 : ∀ m, la0 = some m → m < 2 ^ 31) (b4 : w < 2 ^ 31) (b5 : w0 < 2 ^ 31) (h1 : O 0 i 2 j = oI th) (h2 : O 0 i 3 j = nI w) (h3 : O 0 i 4 k = oI la0) : ex (d + 1) 4 196 [some (vr 0 i 0), none, some (vi (nI k)), none, none, none, some (vi (nI j)), some (vi (oI th0)), some (vi (nI w0)), some (vi (oI la0))] [] O = some (bI (!(decide (th = th0) && decide (w = w0) && decide ((th <|> la0) = la0))), up O 0 i 4 k (oI (th <|> la0))) := by
  have key : ∀ (O : Mem_) (la : Option Nat), O 0 i 2 j = oI th → O 0 i 3 j = nI w → O 0 i 4 k = oI la → (∀ m, la = some m → m < 2 ^ 31) → ex (d + 1) 4 221 [some (vr 0 i 0), none, some (vi (nI k)), none, none, none, some (vi (nI j)), some (vi (oI th0)), some (vi (nI w0)), some (vi (oI la0))] [] O = some (bI (!(decide (th = th0) && decide (w = w0) && decide (la = la0))), O) := by
    intro O la h1 h2 h3 b6
    rw [sX0_look_221]
    simp (disch := omega) only [nI_ltI, nI_eq, nI_add, nI_clamp, ib_n, pk_mul, q_and, q_or, q_dn, q_shl, q_shlm, q_p1, if_true, if_false, ↓reduceIte, Option.bind_some, bI_0, bI_1, bI_01, b_or, Nat.not_lt_zero, Nat.zero_add, Bool.false_eq_true, Bool.true_eq_false, or_false, or_true, true_or, false_or, h1, h2, h3, oI_inj b1 b2, oI_inj b6 b3]
    by_cases c1 : th = th0 <;> by_cases c2 : w = w0 <;> by_cases c3 : la = la0 <;> simp [c1, c2, c3, bI]
  rw [sX0_look_196]
  simp (disch := omega) only [nI_ltI, nI_eq, nI_add, nI_clamp, ib_n, pk_mul, q_and, q_or, q_dn, q_shl, q_shlm, q_p1, if_true, if_false, ↓reduceIte, Option.bind_some, bI_0, bI_1, bI_01, b_or, Nat.not_lt_zero, Nat.zero_add, Bool.false_eq_true, Bool.true_eq_false, or_false, or_true, true_or, false_or, h1, h3]
  cases th with
  | none =>
    rw [if_pos rfl, key O la0 h1 h2 h3 b3, up_same (by rw [h3]; rfl)]
    rfl
  | some x =>
    rw [if_neg (oI_sn (b1 x rfl)), key _ (some x) (by rw [up_self, if_neg (by omega), h1]) (by rw [up_self, if_neg (by omega), h2]) (by rw [up_eq]) b1]
    rfl
theorem m_holdOrTurn (d : Nat) {j w : Nat} {th p : Option Nat} {b : Bool} (hj : j < 24) (b1 : ∀ m, th = some m → m < 2 ^ 31) (hw : w < 2) (h1 : O 0 i 2 j = oI th) (h2 : O 0 i 3 j = nI w) : ex (d + 1) 5 0 [some (vr 0 i 0), some (vi (nI j)), some (vi (oI p)), some (vi (bI b))] [] O = some (nI 0, (let w' := if th.isSome && !b then w + 1 else w; if th.isNone || decide (2 ≤ w') then up (up O 0 i 2 j (oI p)) 0 i 3 j (nI 0) else up O 0 i 3 j (nI w'))) := by
  have k37 : ∀ (O : Mem_) (y w : Nat), w < 4 → y < 2 → O 0 i 3 j = nI w → ex (d + 1) 5 37 [some (vr 0 i 0), some (vi (nI j)), some (vi (oI p)), none, some (vi (nI y))] [] O = some (nI 0, if y = 0 ∨ 2 ≤ w then up (up O 0 i 2 j (oI p)) 0 i 3 j (nI 0) else O) := by
    intro O y w hw hy h2
    rw [sX0_holdOrTurn_37]
    simp (disch := omega) only [nI_ltI, nI_eq, nI_add, nI_clamp, ib_n, pk_mul, q_and, q_or, q_dn, q_shl, q_shlm, q_p1, if_true, if_false, ↓reduceIte, Option.bind_some, bI_0, bI_1, bI_01, b_or, Nat.not_lt_zero, Nat.zero_add, Bool.false_eq_true, Bool.true_eq_false, or_false, or_true, true_or, false_or, h2, sX0_holdOrTurn_52]
    by_cases hy0 : y = 0
    · simp [hy0]
    · by_cases hw2 : w < 2
      · simp [hy0, hw2, Nat.not_le.mpr hw2]
      · simp [hy0, hw2, Nat.not_lt.mp hw2]
  rw [sX0_holdOrTurn_0]
  simp (disch := omega) only [nI_ltI, nI_eq, nI_add, nI_clamp, ib_n, pk_mul, q_and, q_or, q_dn, q_shl, q_shlm, q_p1, if_true, if_false, ↓reduceIte, Option.bind_some, bI_0, bI_1, bI_01, b_or, Nat.not_lt_zero, Nat.zero_add, Bool.false_eq_true, Bool.true_eq_false, or_false, or_true, true_or, false_or, h1]
  cases th with
  | none =>
    rw [if_pos rfl, sX0_holdOrTurn_16, if_pos rfl]
    rw [k37 O 0 w (by omega) (by decide) h2]
    simp
  | some x =>
    rw [if_neg (oI_sn (b1 x rfl)), sX0_holdOrTurn_16, if_neg (by decide)]
    cases b with
    | false =>
      simp (disch := omega) only [nI_ltI, nI_eq, nI_add, nI_clamp, ib_n, pk_mul, q_and, q_or, q_dn, q_shl, q_shlm, q_p1, if_true, if_false, ↓reduceIte, Option.bind_some, bI_0, bI_1, bI_01, b_or, Nat.not_lt_zero, Nat.zero_add, Bool.false_eq_true, Bool.true_eq_false, or_false, or_true, true_or, false_or, h2]
      rw [k37 _ 1 (w + 1) (by omega) (by decide) (by rw [up_eq])]
      by_cases hw2 : 2 ≤ w + 1
      · simp only [Option.isSome_some, Bool.not_false, Bool.and_true, Option.isNone_some, Bool.false_or, if_true, hw2, or_true, decide_true]
        rw [up_comm _ _ _ (by omega), up_up, up_comm _ _ _ (by omega)]
      · simp [hw2]
    | true =>
      simp only [bI_0, Bool.true_eq_false, if_false]
      rw [k37 _ 1 w (by omega) (by decide) h2]
      have hw2 : ¬ 2 ≤ w := by omega
      simp [hw2, up_same h2]
theorem thk_0 {k s t f : Nat} {so : Bool} {μ : Mi_} (e : so_ T k = 0) : thk T k s t so f μ = (plainest T (chs T f k s μ.1), μ.2.1 s) := by simp [thk, e]
theorem thk_1 {k s t f : Nat} {so : Bool} {μ : Mi_} (e : so_ T k = 1) : thk T k s t so f μ = (if inO μ.2.2.1 (chs T f k s μ.1) then μ.2.2.1 else plainest T (chs T f k s μ.1), μ.2.1 s) := by simp [thk, e]
theorem thk_2 {k s t f : Nat} {so : Bool} {μ : Mi_} (e : so_ T k = 2) : thk T k s t so f μ = (if (plainest T (chs T f k s μ.1)).any (fun m => dn (chs T f k s μ.1) (alike T m) == 0) then plainest T (chs T f k s μ.1) else none, μ.2.1 s) := by simp [thk, e]
theorem thk_3 {k s t f : Nat} {so : Bool} {μ : Mi_} (e : so_ T k = 3) : thk T k s t so f μ = (let w := if (μ.1 s).isSome && !inO (μ.1 s) (fitg T t so) then μ.2.1 s + 1 else μ.2.1 s; if (μ.1 s).isNone || decide (2 ≤ w) then (plainest T (chs T f k s μ.1), 0) else (μ.1 s, w)) := by simp [thk, e]
theorem m_look (d : Nat) {k s t f : Nat} {so : Bool} {μ : Mi_} (hk : k < nK T) (hs : s < nS T) (ht : t < nT T) (hf : f < 4096) (hF : O 0 i 6 s = nI f) (h : CT (O 4 n) T) (hT : WT T) (hm : KM (O 0 i) k μ) (hw : WMi T μ) : ∃ c, (c = false → look1 T k s t so f μ = μ) ∧ ex (d + 3) 4 0 [some (vr 0 i 0), some (vr 4 n 0), some (vi (nI k)), some (vi (nI s)), some (vi (nI t)), some (vi (bI so))] [] O = some (bI c, up (up (up O 0 i 2 (k * 4 + s) (oI (thk T k s t so f μ).1)) 0 i 3 (k * 4 + s) (nI (thk T k s t so f μ).2)) 0 i 4 k (oI ((thk T k s t so f μ).1 <|> μ.2.2.1))) := by
  have h6 := hT.2.2.2.1
  have h4 := hT.2.2.1
  have h12 := hT.2.1
  have hso := (hT.2.2.2.2.2.2.2.1 k).1
  have hfg := fitg_lt hT t so
  have hch : chs T f k s μ.1 < 4096 := ms_lt _ 12
  obtain ⟨wf1, wf2⟩ := thk_wf (k := k) (s := s) (t := t) (so := so) (f := f) hw
  have hj : k * 4 + s < 24 := by omega
  have m1 := (hm.1 s (by omega)).1
  have m2 := (hm.1 s (by omega)).2
  have m3 := hm.2.1
  have wsm := hw.2.1 s
  have bp : ∀ m, plainest T (chs T f k s μ.1) = some m → m < 12 := fun m e => by have := (plainest_lt e).1; omega
  refine ⟨!(decide ((thk T k s t so f μ).1 = μ.1 s) && decide ((thk T k s t so f μ).2 = μ.2.1 s) && decide (((thk T k s t so f μ).1 <|> μ.2.2.1) = μ.2.2.1)), fun hc => ?_, ?_⟩
  · simp only [Bool.not_eq_false', Bool.and_eq_true, decide_eq_true_eq] at hc
    obtain ⟨⟨c1, c2⟩, c3⟩ := hc
    unfold look1
    rw [c3]
    refine Prod.ext ?_ (Prod.ext ?_ rfl)
    · funext q
      simp only [upF]
      split
      · rename_i e; rw [e, c1]
      · rfl
    · funext q
      simp only [upF]
      split
      · rename_i e; rw [e, c2]
      · rfl
  · rw [sX0_look_0]
    simp (disch := omega) only [nI_ltI, nI_eq, nI_add, nI_clamp, ib_n, pk_mul, q_and, q_or, q_dn, q_shl, q_shlm, q_p1, if_true, if_false, ↓reduceIte, Option.bind_some, bI_0, bI_1, bI_01, b_or, Nat.not_lt_zero, Nat.zero_add, Bool.false_eq_true, Bool.true_eq_false, or_false, or_true, true_or, false_or, m_choices (O := O) (i := i) (n := n) (d := d) hk hs hf hF h hT hm hw, m_plainest (O := O) (n := n) (h := h) (hT := hT) (d := d) (b := chs T f k s μ.1), (h.2.2.2.2 k hk).1, m1, m2, m3]
    have fin : ∀ (O1 : Mem_), O1 = up (up O 0 i 2 (k * 4 + s) (oI (thk T k s t so f μ).1)) 0 i 3 (k * 4 + s) (nI (thk T k s t so f μ).2) → ex (d + 3) 4 196 [some (vr 0 i 0), none, some (vi (nI k)), none, none, none, some (vi (nI (k * 4 + s))), some (vi (oI (μ.1 s))), some (vi (nI (μ.2.1 s))), some (vi (oI μ.2.2.1))] [] O1 = some (bI (!(decide ((thk T k s t so f μ).1 = μ.1 s) && decide ((thk T k s t so f μ).2 = μ.2.1 s) && decide (((thk T k s t so f μ).1 <|> μ.2.2.1) = μ.2.2.1))), up (up (up O 0 i 2 (k * 4 + s) (oI (thk T k s t so f μ).1)) 0 i 3 (k * 4 + s) (nI (thk T k s t so f μ).2)) 0 i 4 k (oI ((thk T k s t so f μ).1 <|> μ.2.2.1))) := by
      intro O1 e
      subst e
      exact m_look196 (d + 2) (by omega) hj (oBig (by omega) wf1) (oBig (by omega) (hw.1 s)) (oBig (by omega) hw.2.2.1) (by omega) (by omega) (by rw [up_self, if_neg (by omega), up_eq]) (by rw [up_eq]) (by rw [up_self, if_neg (by omega), up_self, if_neg (by omega), m3])
    have up3 : ∀ (v : Int32), up (up O 0 i 2 (k * 4 + s) v) 0 i 3 (k * 4 + s) (nI (μ.2.1 s)) = up O 0 i 2 (k * 4 + s) v := fun v => up_same (by rw [up_self, if_neg (by omega), m2])
    have hcase : so_ T k = 0 ∨ so_ T k = 1 ∨ so_ T k = 2 ∨ so_ T k = 3 := by omega
    rcases hcase with e | e | e | e
    · simp (disch := omega) only [nI_ltI, nI_eq, nI_add, nI_clamp, ib_n, pk_mul, q_and, q_or, q_dn, q_shl, q_shlm, q_p1, if_true, if_false, ↓reduceIte, Option.bind_some, bI_0, bI_1, bI_01, b_or, Nat.not_lt_zero, Nat.zero_add, Bool.false_eq_true, Bool.true_eq_false, or_false, or_true, true_or, false_or, e, m3]
      refine fin _ ?_
      rw [thk_0 e, up3]
    · simp (disch := omega) only [nI_ltI, nI_eq, nI_add, nI_clamp, ib_n, pk_mul, q_and, q_or, q_dn, q_shl, q_shlm, q_p1, if_true, if_false, ↓reduceIte, Option.bind_some, bI_0, bI_1, bI_01, b_or, Nat.not_lt_zero, Nat.zero_add, Bool.false_eq_true, Bool.true_eq_false, or_false, or_true, true_or, false_or, e, m3]
      rw [m_isInO _ _ (o31 (by omega) hw.2.2.1) (by omega)]
      simp (disch := omega) only [nI_ltI, nI_eq, nI_add, nI_clamp, ib_n, pk_mul, q_and, q_or, q_dn, q_shl, q_shlm, q_p1, if_true, if_false, ↓reduceIte, Option.bind_some, bI_0, bI_1, bI_01, b_or, Nat.not_lt_zero, Nat.zero_add, Bool.false_eq_true, Bool.true_eq_false, or_false, or_true, true_or, false_or]
      cases hin : inO μ.2.2.1 (chs T f k s μ.1) with
      | false =>
        simp only [if_true]
        refine fin _ ?_
        rw [thk_1 e, hin, if_neg (by decide), up3]
      | true =>
        simp (disch := omega) only [nI_ltI, nI_eq, nI_add, nI_clamp, ib_n, pk_mul, q_and, q_or, q_dn, q_shl, q_shlm, q_p1, if_true, if_false, ↓reduceIte, Option.bind_some, bI_0, bI_1, bI_01, b_or, Nat.not_lt_zero, Nat.zero_add, Bool.false_eq_true, Bool.true_eq_false, or_false, or_true, true_or, false_or]
        refine fin _ ?_
        rw [thk_1 e, hin, if_pos rfl, up3, m3]
    · simp (disch := omega) only [nI_ltI, nI_eq, nI_add, nI_clamp, ib_n, pk_mul, q_and, q_or, q_dn, q_shl, q_shlm, q_p1, if_true, if_false, ↓reduceIte, Option.bind_some, bI_0, bI_1, bI_01, b_or, Nat.not_lt_zero, Nat.zero_add, Bool.false_eq_true, Bool.true_eq_false, or_false, or_true, true_or, false_or, e, m3]
      cases hp : plainest T (chs T f k s μ.1) with
      | none =>
        simp only [if_true]
        refine fin _ ?_
        rw [thk_2 e, hp, Option.any_none, if_neg (by decide), up3]
      | some x =>
        have hx := plainest_lt hp
        have := alike_lt hT x
        have hd := dn_le (chs T f k s μ.1) (alike T x)
        rw [if_neg (oI_sn (by omega))]
        simp only [oI]
        simp (disch := omega) only [nI_ltI, nI_eq, nI_add, nI_clamp, ib_n, pk_mul, q_and, q_or, q_dn, q_shl, q_shlm, q_p1, if_true, if_false, ↓reduceIte, Option.bind_some, bI_0, bI_1, bI_01, b_or, Nat.not_lt_zero, Nat.zero_add, Bool.false_eq_true, Bool.true_eq_false, or_false, or_true, true_or, false_or, (h.2.2.1 x hx.1).2.2.2.2.1]
        by_cases hz : dn (chs T f k s μ.1) (alike T x) = 0
        · rw [if_pos hz]
          refine fin _ ?_
          rw [thk_2 e, hp, Option.any_some, if_pos (by rw [hz]; rfl), up3]; rfl
        · rw [if_neg hz]
          refine fin _ ?_
          rw [thk_2 e, hp, Option.any_some, if_neg (by simpa using hz), up3]; rfl
    · simp (disch := omega) only [nI_ltI, nI_eq, nI_add, nI_clamp, ib_n, pk_mul, q_and, q_or, q_dn, q_shl, q_shlm, q_p1, if_true, if_false, ↓reduceIte, Option.bind_some, bI_0, bI_1, bI_01, b_or, Nat.not_lt_zero, Nat.zero_add, Bool.false_eq_true, Bool.true_eq_false, or_false, or_true, true_or, false_or, e, m3]
      rw [m_fitting _ so ht h hT]
      simp (disch := omega) only [nI_ltI, nI_eq, nI_add, nI_clamp, ib_n, pk_mul, q_and, q_or, q_dn, q_shl, q_shlm, q_p1, if_true, if_false, ↓reduceIte, Option.bind_some, bI_0, bI_1, bI_01, b_or, Nat.not_lt_zero, Nat.zero_add, Bool.false_eq_true, Bool.true_eq_false, or_false, or_true, true_or, false_or, m1]
      rw [m_isInO _ _ (o31 (by omega) (hw.1 s)) (by omega)]
      simp (disch := omega) only [nI_ltI, nI_eq, nI_add, nI_clamp, ib_n, pk_mul, q_and, q_or, q_dn, q_shl, q_shlm, q_p1, if_true, if_false, ↓reduceIte, Option.bind_some, bI_0, bI_1, bI_01, b_or, Nat.not_lt_zero, Nat.zero_add, Bool.false_eq_true, Bool.true_eq_false, or_false, or_true, true_or, false_or]
      rw [m_holdOrTurn _ hj (oBig (by omega) (hw.1 s)) (by omega) m1 m2]
      simp only [Option.bind_some]
      refine fin _ ?_
      rw [thk_3 e]
      dsimp only
      generalize (if ((μ.1 s).isSome && !inO (μ.1 s) (fitg T t so)) = true then μ.2.1 s + 1 else μ.2.1 s) = w'
      by_cases hc : ((μ.1 s).isNone || decide (2 ≤ w')) = true
      · rw [if_pos hc, if_pos hc]
      · rw [if_neg hc, if_neg hc, up_same (c := 0) (n := i) (p := 2) (j := k * 4 + s) m1]

/-- rows but an object's -/
def Ro (c n : Nat) (O O' : Mem_) : Prop := ∀ c' n', c' ≠ c ∨ n' ≠ n → O' c' n' = O c' n'
theorem Ro.rfl {c n : Nat} {O : Mem_} : Ro c n O O := fun _ _ _ => Eq.refl _
theorem Ro.up {c n p j : Nat} {v : Int32} {O O' : Mem_} (h : Ro c n O O') : Ro c n O (up O' c n p j v) := fun c' n' q => (up_row q).trans (h c' n' q)
theorem Ro.trans {c n : Nat} {O O' O2 : Mem_} (h : Ro c n O O') (h2 : Ro c n O' O2) : Ro c n O O2 := fun c' n' q => (h2 c' n' q).trans (h c' n' q)
theorem m_frighten (d : Nat) {k sn : Nat} (hk : k < 6) (hs : O 0 i 0 0 = nI sn) : ∃ O', ex (d + 1) 3 0 [some (vr 0 i 0), some (vi (nI k))] [] O = some (nI 0, O') ∧ Ro 0 i O O' ∧ KX k (O 0 i) (O' 0 i) ∧ ∀ la, O 0 i 4 k = oI la → KM (O' 0 i) k (fun _ => none, fun _ => 0, la, some sn) := by
  rw [sX0_frighten_0]
  simp (disch := omega) only [nI_ltI, nI_eq, nI_add, nI_clamp, ib_n, pk_mul, q_and, q_or, q_dn, q_shl, q_shlm, q_p1, if_true, if_false, ↓reduceIte, Option.bind_some, bI_0, bI_1, bI_01, b_or, Nat.not_lt_zero, Nat.zero_add, Bool.false_eq_true, Bool.true_eq_false, or_false, or_true, true_or, false_or, hs]
  refine Exists.elim (lp_i (fun s (O : Mem_) => ex (d + 1) 3 12 [some (vr 0 i 0), some (vi (nI k)), some (vi (nI s))] [] O) (fun s O' => Ro 0 i O O' ∧ KX k (O 0 i) (O' 0 i) ∧ O' 0 i 4 k = O 0 i 4 k ∧ O' 0 i 5 k = nI sn ∧ ∀ q, q < s → O' 0 i 2 (k * 4 + q) = oI none ∧ O' 0 i 3 (k * 4 + q) = nI 0) 4 ?_ (up O 0 i 5 k (nI sn)) ⟨Ro.rfl.up, fun p q h1 h2 h3 h4 => by rw [up_self, if_neg (fun z => h4 ⟨z.1, z.2⟩)], by rw [up_self, if_neg (by omega)], up_eq .., fun q hq => by omega⟩) ?_
  · intro s O' hs4 ⟨h1, h2, h3, h4, h5⟩
    refine ⟨up (up O' 0 i 2 (k * 4 + s) (oI none)) 0 i 3 (k * 4 + s) (nI 0), ?_, h1.up.up, fun p q z1 z2 z3 z4 => ?_, ?_, ?_, fun q hq => ?_⟩
    · refine (sX0_frighten_12 ..).trans ?_
      simp (disch := omega) only [nI_ltI, nI_eq, nI_add, nI_clamp, ib_n, pk_mul, q_and, q_or, q_dn, q_shl, q_shlm, q_p1, if_true, if_false, ↓reduceIte, Option.bind_some, bI_0, bI_1, bI_01, b_or, Nat.not_lt_zero, Nat.zero_add, Bool.false_eq_true, Bool.true_eq_false, or_false, or_true, true_or, false_or, hs4]
    · rw [up_self, if_neg (fun z => z2 ⟨z.1, by omega, by omega⟩), up_self, if_neg (fun z => z1 ⟨z.1, by omega, by omega⟩)]
      exact h2 p q z1 z2 z3 z4
    · rw [up_self, if_neg (by omega), up_self, if_neg (by omega)]; exact h3
    · rw [up_self, if_neg (by omega), up_self, if_neg (by omega)]; exact h4
    · rw [up_self, up_self, up_self]
      by_cases e : q = s
      · subst e; simp
      · have := h5 q (by omega)
        rw [if_neg (by omega), if_neg (by omega), if_neg (by omega), up_self, if_neg (by omega)]
        exact this
  · rintro O' ⟨e, h1, h2, h3, h4, h5⟩
    refine ⟨O', e.trans ?_, h1, h2, fun la hla => ⟨fun s hs => h5 s hs, by rw [h3, hla], h4⟩⟩
    refine (sX0_frighten_12 ..).trans ?_
    simp (disch := omega) only [nI_ltI, nI_eq, nI_add, nI_clamp, ib_n, pk_mul, q_and, q_or, q_dn, q_shl, q_shlm, q_p1, if_true, if_false, ↓reduceIte, Option.bind_some, bI_0, bI_1, bI_01, b_or, Nat.not_lt_zero, Nat.zero_add, Bool.false_eq_true, Bool.true_eq_false, or_false, or_true, true_or, false_or, Nat.lt_irrefl]
theorem KM.up {k p j : Nat} {v : Int32} {μ : Mi_} (hp : p < 2 ∨ 5 < p) (h : KM (O 0 i) k μ) : KM ((up O 0 i p j v) 0 i) k μ := by
  refine ⟨fun s hs => ?_, ?_, ?_⟩
  · rw [up_self, if_neg (by omega), up_self, if_neg (by omega)]; exact h.1 s hs
  · rw [up_self, if_neg (by omega)]; exact h.2.1
  · rw [up_self, if_neg (by omega)]; exact h.2.2
theorem m_witness (d : Nat) {K s t sn : Nat} {so : Bool} {M : Md_} (hK : K < 2 ^ 31) (hs : s < nS T) (ht : t < nT T) (hf : ∀ s, M.1 s < 4096) (hF : ∀ s, s < 4 → O 0 i 6 s = nI (M.1 s)) (h : CT (O 4 n) T) (hT : WT T) (hm : ∀ k, k < nK T → K.testBit k = true → KM (O 0 i) k (M.2 k)) (hw : ∀ k, WMi T (M.2 k)) (hsn : O 0 i 0 0 = nI sn) (hsb : sn < 1000) : ∃ c O', ex (d + 4) 2 0 [some (vr 0 i 0), some (vr 4 n 0), some (vi (nI K)), some (vi (nI s)), some (vi (nI t)), some (vi (bI so))] [] O = some (bI c, O') ∧ Ro 0 i O O' ∧ O' 0 i 0 0 = nI (sn + 1) ∧ (∀ s', s' < 4 → O' 0 i 6 s' = nI ((see T sn s t so M).1 s')) ∧ (∀ k, k < nK T → K.testBit k = true → KM (O' 0 i) k ((see T sn s t so M).2 k)) ∧ (c = false → (see T sn s t so M).1 = M.1 ∧ ∀ k, k < nK T → K.testBit k = true → (see T sn s t so M).2 k = M.2 k) := by
  have h6 := hT.2.2.2.1
  have h4 := hT.2.2.1
  have h8 := hT.1
  have hfs := hf s
  have hfg := fitg_lt hT t so
  have hfx : M.1 s &&& fitg T t so < 4096 := Nat.lt_of_le_of_lt Nat.and_le_left (hf s)
  rw [sX0_witness_0]
  simp (disch := omega) only [nI_ltI, nI_eq, nI_add, nI_clamp, ib_n, pk_mul, q_and, q_or, q_dn, q_shl, q_shlm, q_p1, if_true, if_false, ↓reduceIte, Option.bind_some, bI_0, bI_1, bI_01, b_or, Nat.not_lt_zero, Nat.zero_add, Bool.false_eq_true, Bool.true_eq_false, or_false, or_true, true_or, false_or, m_hasSound (h := h), m_hasThing (h := h), hsI_n, hs, ht, decide_true, hF]
  rw [m_fitting _ so ht h hT]
  simp (disch := omega) only [nI_ltI, nI_eq, nI_add, nI_clamp, ib_n, pk_mul, q_and, q_or, q_dn, q_shl, q_shlm, q_p1, if_true, if_false, ↓reduceIte, Option.bind_some, bI_0, bI_1, bI_01, b_or, Nat.not_lt_zero, Nat.zero_add, Bool.false_eq_true, Bool.true_eq_false, or_false, or_true, true_or, false_or, hF, up_eq]
  refine Exists.elim (lp_i (fun k (a : Mem_ × Bool) => ex (d + 4) 2 65 [some (vr 0 i 0), some (vr 4 n 0), some (vi (nI K)), some (vi (nI s)), some (vi (nI t)), some (vi (bI so)), none, some (vi (bI a.2)), some (vi (nI k))] [] a.1) (fun k (a : Mem_ × Bool) => Ro 0 i O a.1 ∧ a.1 0 i 0 0 = nI sn ∧ (∀ s', s' < 4 → a.1 0 i 6 s' = nI ((see T sn s t so M).1 s')) ∧ (∀ k', k' < nK T → K.testBit k' = true → KM (a.1 0 i) k' (if k' < k then (see T sn s t so M).2 k' else M.2 k')) ∧ (a.2 = false → (see T sn s t so M).1 = M.1 ∧ ∀ k', k' < k → K.testBit k' = true → (see T sn s t so M).2 k' = M.2 k')) (nK T) ?_ (up O 0 i 6 s (nI (M.1 s &&& fitg T t so)), !decide (M.1 s &&& fitg T t so = M.1 s)) ⟨Ro.rfl.up, ?_, fun s' hs' => ?_, fun k hk hb => ?_, fun hc => ⟨?_, fun k hk => by omega⟩⟩) ?_
  · intro k ⟨O', c⟩ hk ⟨h1, h2, h3, h4, h5⟩
    dsimp only at h1 h2 h3 h4 h5
    have hCT : CT (O' 4 n) T := by rw [h1 4 n (Or.inl (by decide))]; exact h
    have nxt : K.testBit k = false → ∀ k', k' < nK T → K.testBit k' = true → KM (O' 0 i) k' (if k' < k + 1 then (see T sn s t so M).2 k' else M.2 k') := fun hb k' hk' hb' => by
      have hne : k' ≠ k := fun e => by rw [e, hb] at hb'; cases hb'
      have := h4 k' hk' hb'
      by_cases z : k' < k
      · rw [if_pos z] at this; rw [if_pos (by omega)]; exact this
      · rw [if_neg z] at this; rw [if_neg (by omega)]; exact this
    cases hb : K.testBit k with
    | false =>
      refine ⟨(O', c), ?_, h1, h2, h3, nxt hb, fun hc => ⟨(h5 hc).1, fun k' hk' hb' => ?_⟩⟩
      · refine (sX0_witness_65 ..).trans ?_
        simp (disch := omega) only [nI_ltI, nI_eq, nI_add, nI_clamp, ib_n, pk_mul, q_and, q_or, q_dn, q_shl, q_shlm, q_p1, if_true, if_false, ↓reduceIte, Option.bind_some, bI_0, bI_1, bI_01, b_or, Nat.not_lt_zero, Nat.zero_add, Bool.false_eq_true, Bool.true_eq_false, or_false, or_true, true_or, false_or, hCT.1.2.2.2, m_isIn, hb, hk]
      · have hne : k' ≠ k := fun e => by rw [e, hb] at hb'; cases hb'
        exact (h5 hc).2 k' (by omega) hb'
    | true =>
      have km := h4 k hk hb
      rw [if_neg (Nat.lt_irrefl k)] at km
      have km5 := km.2.2
      have wk := hw k
      have others : ∀ (O2 : Mem_), KX k (O' 0 i) (O2 0 i) → KM (O2 0 i) k ((see T sn s t so M).2 k) → ∀ k', k' < nK T → K.testBit k' = true → KM (O2 0 i) k' (if k' < k + 1 then (see T sn s t so M).2 k' else M.2 k') := fun O2 hx hkm k' hk' hb' => by
        by_cases e : k' = k
        · subst e; rw [if_pos (Nat.lt_succ_self _)]; exact hkm
        · have := h4 k' hk' hb'
          by_cases z : k' < k
          · rw [if_pos z] at this; rw [if_pos (by omega)]; exact hx.km e this
          · rw [if_neg z] at this; rw [if_neg (by omega)]; exact hx.km e this
      cases hfl : (M.2 k).2.2.2 with
      | some x =>
        have hx := wk.2.2.2 x hfl
        have e2 : (see T sn s t so M).2 k = M.2 k := by simp [see, see1, hfl]
        refine ⟨(O', c), ?_, h1, h2, h3, others O' (fun _ _ _ _ _ _ => rfl) (by rw [e2]; exact km), fun hc => ⟨(h5 hc).1, fun k' hk' hb' => ?_⟩⟩
        · have hne := oI_sn (j := x) (by omega)
          refine (sX0_witness_65 ..).trans ?_
          simp (disch := omega) only [nI_ltI, nI_eq, nI_add, nI_clamp, ib_n, pk_mul, q_and, q_or, q_dn, q_shl, q_shlm, q_p1, if_true, if_false, ↓reduceIte, Option.bind_some, bI_0, bI_1, bI_01, b_or, Nat.not_lt_zero, Nat.zero_add, Bool.false_eq_true, Bool.true_eq_false, or_false, or_true, true_or, false_or, hCT.1.2.2.2, m_isIn, hb, hk, km5, hfl, hne]
        · by_cases e : k' = k
          · rw [e, e2]
          · exact (h5 hc).2 k' (by omega) hb'
      | none =>
        by_cases hfe : fe_ T k = some t
        · obtain ⟨O2, q1, q2, q3, q4⟩ := m_frighten (O := O') (i := i) (d + 2) (k := k) (by omega) h2
          have e2 : (see T sn s t so M).2 k = (fun _ => none, fun _ => 0, (M.2 k).2.2.1, some sn) := by simp [see, see1, hfl, hfe]
          refine ⟨(O2, true), ?_, h1.trans q2, ?_, fun s' hs' => ?_, others O2 q3 (by rw [e2]; exact q4 _ km.2.1), fun hc => by cases hc⟩
          · refine (sX0_witness_65 ..).trans ?_
            simp (disch := omega) only [nI_ltI, nI_eq, nI_add, nI_clamp, ib_n, pk_mul, q_and, q_or, q_dn, q_shl, q_shlm, q_p1, if_true, if_false, ↓reduceIte, Option.bind_some, bI_0, bI_1, bI_01, b_or, Nat.not_lt_zero, Nat.zero_add, Bool.false_eq_true, Bool.true_eq_false, or_false, or_true, true_or, false_or, hCT.1.2.2.2, m_isIn, hb, hk, km5, hfl, (hCT.2.2.2.2 k hk).2.2.1, hfe, oI]
            rw [q1]
            rfl
          · show O2 0 i 0 0 = _
            rw [q3 0 0 (by omega) (by omega) (by omega) (by omega)]; exact h2
          · show O2 0 i 6 s' = _
            rw [q3 6 s' (by omega) (by omega) (by omega) (by omega)]; exact h3 s' hs'
        · have hF' : O' 0 i 6 s = nI (M.1 s &&& fitg T t so) := by rw [h3 s (by omega)]; simp [see, upF]
          obtain ⟨cl, q1, q2⟩ := m_look (O := O') (i := i) (n := n) (d := d) (k := k) (s := s) (t := t) (f := M.1 s &&& fitg T t so) (so := so) (μ := M.2 k) hk hs ht hfx hF' hCT hT km wk
          have e2 : (see T sn s t so M).2 k = look1 T k s t so (M.1 s &&& fitg T t so) (M.2 k) := by simp [see, see1, hfl, hfe]
          have hne : ¬ oI (fe_ T k) = nI t := fun e => hfe ((oI_inj (b := some t) (fun j e => by have := hT.2.2.2.2.2.2.2.2 k j e; omega) (fun j e => by cases e; omega)).mp e)
          generalize hO2 : up (up (up O' 0 i 2 (k * 4 + s) (oI (thk T k s t so (M.1 s &&& fitg T t so) (M.2 k)).1)) 0 i 3 (k * 4 + s) (nI (thk T k s t so (M.1 s &&& fitg T t so) (M.2 k)).2)) 0 i 4 k (oI ((thk T k s t so (M.1 s &&& fitg T t so) (M.2 k)).1 <|> (M.2 k).2.2.1)) = O2 at q2
          refine ⟨(O2, c || cl), ?_, ?_, ?_, fun s' hs' => ?_, others O2 (fun p q z1 z2 z3 z4 => ?_) ?_, fun hc => ?_⟩
          · refine (sX0_witness_65 ..).trans ?_
            simp (disch := omega) only [nI_ltI, nI_eq, nI_add, nI_clamp, ib_n, pk_mul, q_and, q_or, q_dn, q_shl, q_shlm, q_p1, if_true, if_false, ↓reduceIte, Option.bind_some, bI_0, bI_1, bI_01, b_or, Nat.not_lt_zero, Nat.zero_add, Bool.false_eq_true, Bool.true_eq_false, or_false, or_true, true_or, false_or, hCT.1.2.2.2, m_isIn, hb, hk, km5, hfl, (hCT.2.2.2.2 k hk).2.2.1, hne]
            rw [q2]
            cases cl
            · simp (disch := omega) only [nI_ltI, nI_eq, nI_add, nI_clamp, ib_n, pk_mul, q_and, q_or, q_dn, q_shl, q_shlm, q_p1, if_true, if_false, ↓reduceIte, Option.bind_some, bI_0, bI_1, bI_01, b_or, Nat.not_lt_zero, Nat.zero_add, Bool.false_eq_true, Bool.true_eq_false, or_false, or_true, true_or, false_or]
              rw [Bool.or_false]
            · simp (disch := omega) only [nI_ltI, nI_eq, nI_add, nI_clamp, ib_n, pk_mul, q_and, q_or, q_dn, q_shl, q_shlm, q_p1, if_true, if_false, ↓reduceIte, Option.bind_some, bI_0, bI_1, bI_01, b_or, Nat.not_lt_zero, Nat.zero_add, Bool.false_eq_true, Bool.true_eq_false, or_false, or_true, true_or, false_or]
              simp [bI]
          · rw [← hO2]; exact h1.up.up.up
          · show O2 0 i _ _ = _
            rw [← hO2, up_self, if_neg (by omega), up_self, if_neg (by omega), up_self, if_neg (by omega)]; exact h2
          · show O2 0 i _ _ = _
            rw [← hO2, up_self, if_neg (by omega), up_self, if_neg (by omega), up_self, if_neg (by omega)]; exact h3 s' hs'
          · rw [← hO2, up_self, if_neg (fun z => z3 ⟨z.1, z.2⟩), up_self, if_neg (fun z => z2 ⟨z.1, by omega, by omega⟩), up_self, if_neg (fun z => z1 ⟨z.1, by omega, by omega⟩)]
          · rw [e2, ← hO2]
            refine ⟨fun s' hs' => ?_, ?_, ?_⟩
            · have kq := km.1 s' hs'
              simp only [look1, upF]
              by_cases e : s' = s
              · subst e
                simp (disch := omega) only [up_ne, up_eq, if_true, and_self]
              · simp (disch := omega) only [up_ne, up_eq, e, if_false]
                exact kq
            · rw [up_eq]; rfl
            · rw [up_self, if_neg (by omega), up_self, if_neg (by omega), up_self, if_neg (by omega)]; exact km5
          · obtain ⟨c1, c2⟩ := Bool.or_eq_false_iff.mp hc
            refine ⟨(h5 c1).1, fun k' hk' hb' => ?_⟩
            by_cases e : k' = k
            · subst e; rw [e2]; exact q1 c2
            · exact (h5 c1).2 k' (by omega) hb'
  · dsimp only; rw [up_self, if_neg (by omega)]; exact hsn
  · dsimp only; rw [up_self]
    by_cases e : s' = s
    · subst e; simp [see, upF]
    · rw [if_neg (fun z => e z.2), hF s' hs']
      simp [see, upF, e]
  · rw [if_neg (Nat.not_lt_zero _)]
    exact KM.up (by omega) (hm k hk hb)
  · simp only [Bool.not_eq_false', decide_eq_true_eq] at hc
    funext q
    simp only [see, upF]
    split
    · rename_i e; rw [e]; exact hc
    · rfl
  · rintro ⟨O', c⟩ ⟨e, h1, h2, h3, h4, h5⟩
    dsimp only at h1 h2 h3 h4 h5
    have hCT : CT (O' 4 n) T := by rw [h1 4 n (Or.inl (by decide))]; exact h
    refine ⟨c, up O' 0 i 0 0 (nI (sn + 1)), ?_, h1.up, up_eq .., fun s' hs' => ?_, fun k hk hb => ?_, fun hc => ?_⟩
    · refine Eq.trans ?_ (e.trans ((sX0_witness_65 ..).trans ?_))
      · by_cases z : M.1 s &&& fitg T t so = M.1 s
        · simp [z, bI]
        · simp [z, bI]
      · simp (disch := omega) only [nI_ltI, nI_eq, nI_add, nI_clamp, ib_n, pk_mul, q_and, q_or, q_dn, q_shl, q_shlm, q_p1, if_true, if_false, ↓reduceIte, Option.bind_some, bI_0, bI_1, bI_01, b_or, Nat.not_lt_zero, Nat.zero_add, Bool.false_eq_true, Bool.true_eq_false, or_false, or_true, true_or, false_or, hCT.1.2.2.2, Nat.lt_irrefl, h2]
    · rw [up_self, if_neg (by omega)]; exact h3 s' hs'
    · have := h4 k hk hb
      rw [if_pos hk] at this
      exact KM.up (by omega) this
    · exact h5 hc
end
