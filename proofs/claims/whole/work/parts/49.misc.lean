/-! likely, draw. -/
section
theorem sm_ext {n : Nat} {f g : Nat → Nat} (h : ∀ i, i < n → f i = g i) : sm n f = sm n g := by
  induction n with
  | zero => rfl
  | succ n ih =>
    show sm n f + f n = sm n g + g n
    rw [ih (fun i hi => h i (by omega)), h n (by omega)]
theorem sm_le {n b : Nat} {f : Nat → Nat} (h : ∀ i, i < n → f i ≤ b) : sm n f ≤ n * b := by
  induction n with
  | zero => exact Nat.zero_le _
  | succ n ih =>
    show sm n f + f n ≤ _
    have h1 := ih (fun i hi => h i (by omega))
    have h2 := h n (by omega)
    rw [Nat.add_mul, Nat.one_mul]
    omega
theorem sm_mono {n : Nat} {f g : Nat → Nat} (h : ∀ i, i < n → f i ≤ g i) : sm n f ≤ sm n g := by
  induction n with
  | zero => exact Nat.le_refl _
  | succ n ih =>
    show sm n f + f n ≤ sm n g + g n
    have h1 := ih (fun i hi => h i (by omega))
    have h2 := h n (by omega)
    omega
theorem m_lowest (d : Nat) (O : Mem_) {a b : Nat} {lo : Bool} (ha : a ≤ 54) (hb0 : 0 < b) (hb : b ≤ 54) : ex (d + 1) 110 0 [some (vi (nI a)), some (vi (nI b)), some (vi (bI lo))] [] O = some (nI (if lo then b / b.gcd a else a / b.gcd a), O) := by
  have key : ∀ y x i, y + i < 64 → x < 2 ^ 31 → ex (d + 1) 110 8 [some (vi (nI a)), some (vi (nI b)), some (vi (bI lo)), some (vi (nI x)), some (vi (nI y)), some (vi (nI i))] [] O = ex (d + 1) 110 39 [some (vi (nI a)), some (vi (nI b)), some (vi (bI lo)), some (vi (nI (x.gcd y)))] [] O := by
    intro y
    induction y using Nat.strongRecOn with
    | ind y ih =>
      intro x i hi hx
      refine (sX6_ofLowestTerms_8 ..).trans ?_
      simp (disch := omega) only [nI_ltI, nI_eq, nI_add, nI_clamp, ib_n, pk_mul, q_and, q_or, q_dn, q_shl, q_shlm, q_p1, if_true, if_false, ↓reduceIte, Option.bind_some, bI_0, bI_1, bI_01, b_or, Nat.not_lt_zero, Nat.zero_add, Bool.false_eq_true, Bool.true_eq_false, or_false, or_true, true_or, false_or]
      rw [if_pos (by omega)]
      by_cases hy : y = 0
      · subst hy; rw [if_pos rfl, Nat.gcd_zero_right]
      · rw [if_neg hy, if_neg hy, pk_rem hx (by omega) (by omega)]
        have hlt := Nat.mod_lt x (y := y) (by omega)
        rw [ih (x % y) hlt y (i + 1) (by omega) (by omega), Nat.gcd_comm y, ← Nat.gcd_rec, Nat.gcd_comm]
  rw [sX6_ofLowestTerms_0, key a b 0 (by omega) (by omega), sX6_ofLowestTerms_39]
  have hg : 0 < b.gcd a := Nat.gcd_pos_of_pos_left _ hb0
  have hg2 : b.gcd a ≤ b := Nat.gcd_le_left _ hb0
  rw [if_neg (by rw [nI_eq (by omega) (by decide)]; omega)]
  have hne : ¬ nI (b.gcd a) = nI 0 := by rw [nI_eq (by omega) (by decide)]; omega
  rw [if_neg hne]
  have hne2 : ¬ b.gcd a = 0 := by omega
  cases lo with
  | false => simp (disch := omega) only [nI_ltI, nI_eq, nI_add, nI_clamp, ib_n, pk_mul, q_and, q_or, q_dn, q_shl, q_shlm, q_p1, if_true, if_false, ↓reduceIte, Option.bind_some, bI_0, bI_1, bI_01, b_or, Nat.not_lt_zero, Nat.zero_add, Bool.false_eq_true, Bool.true_eq_false, or_false, or_true, true_or, false_or, hne2]; rw [pk_div (by omega) hg (by omega)]
  | true => simp (disch := omega) only [nI_ltI, nI_eq, nI_add, nI_clamp, ib_n, pk_mul, q_and, q_or, q_dn, q_shl, q_shlm, q_p1, if_true, if_false, ↓reduceIte, Option.bind_some, bI_0, bI_1, bI_01, b_or, Nat.not_lt_zero, Nat.zero_add, Bool.false_eq_true, Bool.true_eq_false, or_false, or_true, true_or, false_or, hne2]; rw [pk_div (by omega) hg (by omega)]
theorem n_lowest (d : Nat) (O : Mem_) {a b w : Nat} (ha : a ≤ 54) (hb0 : 0 < b) (hb : b ≤ 54) (hw : w < 2 ^ 31) : ex (d + 1) 191 0 [some (vi (nI a)), some (vi (nI b)), some (vi (nI w))] [] O = some (nI (if w = 0 then a / b.gcd a else b / b.gcd a), O) := by
  have key : ∀ y x, y < 2 ^ 31 → x < 2 ^ 31 → ex (d + 1) 191 5 [some (vi (nI a)), some (vi (nI b)), some (vi (nI w)), some (vi (nI x)), some (vi (nI y))] [] O = ex (d + 1) 191 5 [some (vi (nI a)), some (vi (nI b)), some (vi (nI w)), some (vi (nI (x.gcd y))), some (vi (nI 0))] [] O := by
    intro y
    induction y using Nat.strongRecOn with
    | ind y ih =>
      intro x hy hx
      by_cases h0 : y = 0
      · subst h0; rw [Nat.gcd_zero_right]
      · refine (sX7_lowest_5 ..).trans ?_
        simp (disch := omega) only [nI_ltI, nI_eq, nI_add, nI_clamp, ib_n, pk_mul, q_and, q_or, q_dn, q_shl, q_shlm, q_p1, if_true, if_false, ↓reduceIte, Option.bind_some, bI_0, bI_1, bI_01, b_or, Nat.not_lt_zero, Nat.zero_add, Bool.false_eq_true, Bool.true_eq_false, or_false, or_true, true_or, false_or]
        rw [if_neg h0, if_neg h0, pk_rem hx (by omega) (by omega)]
        have hlt := Nat.mod_lt x (y := y) (by omega)
        rw [ih (x % y) hlt y (by omega) hy, Nat.gcd_comm y, ← Nat.gcd_rec, Nat.gcd_comm]
  rw [sX7_lowest_0, key a b (by omega) (by omega), sX7_lowest_5]
  have hg : 0 < b.gcd a := Nat.gcd_pos_of_pos_left _ hb0
  have hg2 : b.gcd a ≤ b := Nat.gcd_le_left _ hb0
  have hne : ¬ nI (b.gcd a) = nI 0 := by rw [nI_eq (by omega) (by decide)]; omega
  rw [if_pos rfl, if_neg hne, if_neg hne]
  simp (disch := omega) only [nI_ltI, nI_eq, nI_add, nI_clamp, ib_n, pk_mul, q_and, q_or, q_dn, q_shl, q_shlm, q_p1, if_true, if_false, ↓reduceIte, Option.bind_some, bI_0, bI_1, bI_01, b_or, Nat.not_lt_zero, Nat.zero_add, Bool.false_eq_true, Bool.true_eq_false, or_false, or_true, true_or, false_or]
  rw [pk_div (by omega) hg (by omega), pk_div (by omega) hg (by omega)]
  split <;> rfl
theorem all_sm {T : Td_} : chc T (2 ^ nK T - 1) = sm (nK T) fun k => ch_ T k := sm_ext fun k hk => by rw [Nat.testBit_two_pow_sub_one, decide_eq_true hk, if_pos rfl]
theorem chc_le {T : Td_} (hT : WT T) (K : Nat) : chc T K ≤ 54 := by
  have h6 := hT.2.2.2.1
  have : chc T K ≤ nK T * 9 := sm_le fun k _ => by
    have := (hT.2.2.2.2.2.2.2.1 k).2.2
    split
    · exact this
    · exact Nat.zero_le _
  omega
def csm (T : Td_) (M : Md_) (s : Nat) : Nat := sm (nK T) fun k => if sam T M k s then ch_ T k else 0
theorem csm_le {T : Td_} (hT : WT T) (M : Md_) (s : Nat) : csm T M s ≤ 54 := by
  have h6 := hT.2.2.2.1
  have : csm T M s ≤ nK T * 9 := sm_le fun k _ => by
    have := (hT.2.2.2.2.2.2.2.1 k).2.2
    split
    · exact this
    · exact Nat.zero_le _
  omega
theorem q_likely (x y : Int32) : Cal 96 201 [some (vi x), some (vi y)] := Cal.q fun O A hw hc hm => by
  obtain ⟨w, cw, c9, hT, hS, hI, hB, hM, hP, hF, hSh⟩ := hc
  have hsel := cw.sel
  obtain ⟨mT, mSc, mIm, mN, mP, mF, mSh, mt⟩ := hm
  have hw' := hw
  obtain ⟨wT, wS, wI, wP, wF, wSh, wt⟩ := hw
  have h8 := wT.1
  have h12 := wT.2.1
  have h4 := wT.2.2.1
  have h6 := wT.2.2.2.1
  have wMd : WMd A.1 (mds A.1 A.2.1.2.1 A.2.1.1) := mds_wf _ (by have := wS.1; omega)
  have kmC : ∀ k, k < nK A.1 → KM (O 0 0) k ((mds A.1 A.2.1.2.1 A.2.1.1).2 k) := fun k hk => hM.2.2 k hk (by rw [Nat.testBit_two_pow_sub_one, decide_eq_true hk])
  have kmN : ∀ k, k < nK A.1 → KN (O 7 0) (10 * k) ((mds A.1 A.2.1.2.1 A.2.1.1).2 k) := fun k hk => by have := mN.1 k hk; rwa [Nat.zero_add] at this
  have h64 : 2 ^ nK A.1 ≤ 2 ^ 6 := Nat.pow_le_pow_right (by decide) h6
  have hall := chc_le wT (2 ^ nK A.1 - 1)
  by_cases hx : hsI x (nS A.1) = true
  · have hx' := hx
    obtain ⟨s, hs, rfl⟩ := hsI_of (by omega) hx
    have hcs := csm_le wT (mds A.1 A.2.1.2.1 A.2.1.1) s
    by_cases hy : hsI y 2 = true
    · have hy' := hy
      obtain ⟨c, hcc, rfl⟩ := hsI_of (by decide) hy
      have st : ex 40 201 0 [some (vr 7 0 0), some (vi (nI s)), some (vi (nI c))] [] O = ex (39 + 1) 201 25 [some (vr 7 0 0), some (vi (nI s)), some (vi (nI c)), some (vi (nI (csm A.1 (mds A.1 A.2.1.2.1 A.2.1.1) s))), some (vi (nI (nK A.1)))] [] O := by
        rw [sX7_likely_0]
        simp (disch := omega) only [nI_ltI, nI_eq, nI_add, nI_clamp, ib_n, pk_mul, q_and, q_or, q_dn, q_shl, q_shlm, q_p1, if_true, if_false, ↓reduceIte, Option.bind_some, bI_0, bI_1, bI_01, b_or, Nat.not_lt_zero, Nat.zero_add, Bool.false_eq_true, Bool.true_eq_false, or_false, or_true, true_or, false_or, n_isSound (h := mT) (hT := wT), hx', m_in _ _ (nI c) (nI 0) (nI 1) (a := 0) (b := 1) (by decide) (by decide), inI_c, hy']
        refine (lp_n (fun k a => ex (39 + 1) 201 25 [some (vr 7 0 0), some (vi (nI s)), some (vi (nI c)), some (vi (nI a)), some (vi (nI k))] [] O) (fun k a => a + (if sam A.1 (mds A.1 A.2.1.2.1 A.2.1.1) k s then ch_ A.1 k else 0)) (nK A.1) (fun k a hk => ?_) 0).trans ?_
        · refine (sX7_likely_25 ..).trans ?_
          simp (disch := omega) only [nI_ltI, nI_eq, nI_add, nI_clamp, ib_n, pk_mul, q_and, q_or, q_dn, q_shl, q_shlm, q_p1, if_true, if_false, ↓reduceIte, Option.bind_some, bI_0, bI_1, bI_01, b_or, Nat.not_lt_zero, Nat.zero_add, Bool.false_eq_true, Bool.true_eq_false, or_false, or_true, true_or, false_or, mT.1.2.2.2, hk, n_isSame 37 (b := 0) (by omega) hk hs mT wT mN wMd, (mT.2.2.2.2 k hk).2.2.2.2]
          cases sam A.1 (mds A.1 A.2.1.2.1 A.2.1.1) k s <;> simp
        · rw [itn_sm]; rfl
      by_cases h0 : chc A.1 (2 ^ nK A.1 - 1) = 0
      · refine ⟨oI none, ?_, st.trans ?_⟩
        · rw [sX6_likely_0]
          simp (disch := omega) only [nI_ltI, nI_eq, nI_add, nI_clamp, ib_n, pk_mul, q_and, q_or, q_dn, q_shl, q_shlm, q_p1, if_true, if_false, ↓reduceIte, Option.bind_some, bI_0, bI_1, bI_01, b_or, Nat.not_lt_zero, Nat.zero_add, Bool.false_eq_true, Bool.true_eq_false, or_false, or_true, true_or, false_or, hsel, m_hasSound (h := hT), hx', m_allKinds (h := hT) (hT := wT), m_chances 37 (n := w) (K := 2 ^ nK A.1 - 1) (by omega) hT wT, h0]
          rw [if_neg (by omega)]
        · refine (sX7_likely_25 ..).trans ?_
          simp (disch := omega) only [nI_ltI, nI_eq, nI_add, nI_clamp, ib_n, pk_mul, q_and, q_or, q_dn, q_shl, q_shlm, q_p1, if_true, if_false, ↓reduceIte, Option.bind_some, bI_0, bI_1, bI_01, b_or, Nat.not_lt_zero, Nat.zero_add, Bool.false_eq_true, Bool.true_eq_false, or_false, or_true, true_or, false_or, mT.1.2.2.2, Nat.lt_irrefl, n_allChances 37 mT wT, h0]
      · refine ⟨nI (if c = 0 then csm A.1 (mds A.1 A.2.1.2.1 A.2.1.1) s / (chc A.1 (2 ^ nK A.1 - 1)).gcd (csm A.1 (mds A.1 A.2.1.2.1 A.2.1.1) s) else chc A.1 (2 ^ nK A.1 - 1) / (chc A.1 (2 ^ nK A.1 - 1)).gcd (csm A.1 (mds A.1 A.2.1.2.1 A.2.1.1) s)), ?_, st.trans ?_⟩
        · rw [sX6_likely_0]
          simp (disch := omega) only [nI_ltI, nI_eq, nI_add, nI_clamp, ib_n, pk_mul, q_and, q_or, q_dn, q_shl, q_shlm, q_p1, if_true, if_false, ↓reduceIte, Option.bind_some, bI_0, bI_1, bI_01, b_or, Nat.not_lt_zero, Nat.zero_add, Bool.false_eq_true, Bool.true_eq_false, or_false, or_true, true_or, false_or, hsel, m_hasSound (h := hT), hx', m_allKinds (h := hT) (hT := wT), m_chances 37 (n := w) (K := 2 ^ nK A.1 - 1) (by omega) hT wT, m_chanceOfSame 35 (i := 0) (n := w) (s := s) (M := mds A.1 A.2.1.2.1 A.2.1.1) hs hT wT kmC wMd.2]
          rw [if_neg (by omega), if_neg h0]
          have l1 := m_lowest 38 O (a := csm A.1 (mds A.1 A.2.1.2.1 A.2.1.1) s) (b := chc A.1 (2 ^ nK A.1 - 1)) (lo := true) hcs (by omega) hall
          have l0 := m_lowest 38 O (a := csm A.1 (mds A.1 A.2.1.2.1 A.2.1.1) s) (b := chc A.1 (2 ^ nK A.1 - 1)) (lo := false) hcs (by omega) hall
          rw [bI_t] at l1
          rw [bI_f] at l0
          unfold csm at l0 l1
          rcases (by omega : c = 0 ∨ c = 1) with rfl | rfl
          · simp (disch := omega) only [nI_ltI, nI_eq, nI_add, nI_clamp, ib_n, pk_mul, q_and, q_or, q_dn, q_shl, q_shlm, q_p1, if_true, if_false, ↓reduceIte, Option.bind_some, bI_0, bI_1, bI_01, b_or, Nat.not_lt_zero, Nat.zero_add, Bool.false_eq_true, Bool.true_eq_false, or_false, or_true, true_or, false_or, l0]
            rfl
          · simp (disch := omega) only [nI_ltI, nI_eq, nI_add, nI_clamp, ib_n, pk_mul, q_and, q_or, q_dn, q_shl, q_shlm, q_p1, if_true, if_false, ↓reduceIte, Option.bind_some, bI_0, bI_1, bI_01, b_or, Nat.not_lt_zero, Nat.zero_add, Bool.false_eq_true, Bool.true_eq_false, or_false, or_true, true_or, false_or, l1]
            rfl
        · refine (sX7_likely_25 ..).trans ?_
          simp (disch := omega) only [nI_ltI, nI_eq, nI_add, nI_clamp, ib_n, pk_mul, q_and, q_or, q_dn, q_shl, q_shlm, q_p1, if_true, if_false, ↓reduceIte, Option.bind_some, bI_0, bI_1, bI_01, b_or, Nat.not_lt_zero, Nat.zero_add, Bool.false_eq_true, Bool.true_eq_false, or_false, or_true, true_or, false_or, mT.1.2.2.2, Nat.lt_irrefl, n_allChances 37 mT wT]
          rw [if_neg h0, n_lowest _ _ hcs (by omega) hall (by omega)]
          simp (disch := omega) only [nI_ltI, nI_eq, nI_add, nI_clamp, ib_n, pk_mul, q_and, q_or, q_dn, q_shl, q_shlm, q_p1, if_true, if_false, ↓reduceIte, Option.bind_some, bI_0, bI_1, bI_01, b_or, Nat.not_lt_zero, Nat.zero_add, Bool.false_eq_true, Bool.true_eq_false, or_false, or_true, true_or, false_or]
    · have hy := bool_ne hy
      refine ⟨-1, ?_, ?_⟩
      · rw [sX6_likely_0]
        simp (disch := omega) only [nI_ltI, nI_eq, nI_add, nI_clamp, ib_n, pk_mul, q_and, q_or, q_dn, q_shl, q_shlm, q_p1, if_true, if_false, ↓reduceIte, Option.bind_some, bI_0, bI_1, bI_01, b_or, Nat.not_lt_zero, Nat.zero_add, Bool.false_eq_true, Bool.true_eq_false, or_false, or_true, true_or, false_or, hsel, m_hasSound (h := hT), hx']
        unfold hsI at hy
        by_cases z : y < nI 0
        · rw [if_pos z]
        · rw [decide_eq_false z] at hy
          have z2 : ¬ y < nI 2 := fun q => by rw [decide_eq_true q] at hy; cases hy
          obtain ⟨j, hj, rfl⟩ := nI_of z
          rw [nI_ltI hj (by decide)] at z2
          rw [if_neg z, if_pos (by rw [nI_ltI (by decide) hj]; omega)]
      · rw [sX7_likely_0]
        simp (disch := omega) only [nI_ltI, nI_eq, nI_add, nI_clamp, ib_n, pk_mul, q_and, q_or, q_dn, q_shl, q_shlm, q_p1, if_true, if_false, ↓reduceIte, Option.bind_some, bI_0, bI_1, bI_01, b_or, Nat.not_lt_zero, Nat.zero_add, Bool.false_eq_true, Bool.true_eq_false, or_false, or_true, true_or, false_or, n_isSound (h := mT) (hT := wT), hx', m_in _ _ y (nI 0) (nI 1) (a := 0) (b := 1) (by decide) (by decide), inI_c, hy]
  · have hx := bool_ne hx
    refine ⟨-1, ?_, ?_⟩
    · rw [sX6_likely_0]
      simp (disch := omega) only [nI_ltI, nI_eq, nI_add, nI_clamp, ib_n, pk_mul, q_and, q_or, q_dn, q_shl, q_shlm, q_p1, if_true, if_false, ↓reduceIte, Option.bind_some, bI_0, bI_1, bI_01, b_or, Nat.not_lt_zero, Nat.zero_add, Bool.false_eq_true, Bool.true_eq_false, or_false, or_true, true_or, false_or, hsel, m_hasSound (h := hT), hx]
    · rw [sX7_likely_0]
      simp (disch := omega) only [nI_ltI, nI_eq, nI_add, nI_clamp, ib_n, pk_mul, q_and, q_or, q_dn, q_shl, q_shlm, q_p1, if_true, if_false, ↓reduceIte, Option.bind_some, bI_0, bI_1, bI_01, b_or, Nat.not_lt_zero, Nat.zero_add, Bool.false_eq_true, Bool.true_eq_false, or_false, or_true, true_or, false_or, n_isSound (h := mT) (hT := wT), hx]
def dr (X : Int32) : Nat := X.toBitVec.toNat / 2 ^ 16 % 2 ^ 15
theorem dr_c (X : Int32) : (Int32.toUInt32 X >>> (Int32.toUInt32 (nI 16) &&& Int32.toUInt32 31)).toInt32 &&& nI 32767 = nI (dr X) := by
  rw [pk_and _ 15 (by decide), pk_ushr _ _ 16 (by decide)]
  rfl
theorem dr_m (X : Int32) : (X >>> (nI 16 &&& (31 : Int32))) &&& nI 32767 = nI (dr X) := by
  rw [pk_and _ 15 (by decide)]
  congr 1
  have e3 : (X >>> (nI 16 &&& (31 : Int32))).toBitVec = X.toBitVec.sshiftRight 16 := by
    show X.toBitVec.sshiftRight' _ = _
    rw [BitVec.sshiftRight', s_l 16 (by decide)]
  rw [e3, dr]
  apply Nat.eq_of_testBit_eq
  intro j
  rw [Nat.testBit_mod_two_pow, Nat.testBit_mod_two_pow, Nat.testBit_div_two_pow]
  by_cases hj : j < 15
  · rw [decide_eq_true hj, Bool.true_and, Bool.true_and]
    show (X.toBitVec.sshiftRight 16).getLsbD j = X.toBitVec.getLsbD (j + 16)
    rw [BitVec.getLsbD_sshiftRight, if_pos (by omega), decide_eq_false (by omega)]
    simp [Nat.add_comm]
  · rw [decide_eq_false hj, Bool.false_and, Bool.false_and]
end
