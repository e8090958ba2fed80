/-! sure. -/
section
def ssM (T : Td_) (m : Nat) : Bool := (List.range (nK T)).any fun k => (can T k).testBit m
def ssB (T : Td_) (s e m : Nat) : Bool := (!decide (are T m = tgA T s) && ssM T m) && decide ((are T m ^^^ tgA T s) &&& e = 0)
def ssS (T : Td_) (s e : Nat) : Bool := (List.range (nM T)).all fun m => !ssB T s e m
def bC (T : Td_) (s : Nat) : Nat → Nat
  | 0 => 2 ^ nT T - 1
  | j + 1 => if cnt j 12 < cnt (bC T s j) 12 ∧ ssS T s j = true then j else bC T s j
def bM (T : Td_) (s : Nat) : Nat → Option Nat
  | 0 => none
  | j + 1 => match bM T s j with
    | none => if ssS T s j = true then some j else none
    | some b => if cnt j 12 < cnt b 12 ∧ ssS T s j = true then some j else some b
section
variable {T : Td_} {O : Mem_} {w : Nat}
theorem xor_lt {a b n : Nat} (ha : a < 2 ^ n) (hb : b < 2 ^ n) : a ^^^ b < 2 ^ n := Nat.xor_lt_two_pow ha hb
theorem xor0 {a b : Nat} (h : a ^^^ b = 0) : a = b := by
  apply Nat.eq_of_testBit_eq
  intro i
  have := congrArg (fun z => z.testBit i) h
  simp only [Nat.testBit_xor, Nat.zero_testBit] at this
  revert this
  cases a.testBit i <;> cases b.testBit i <;> decide
theorem ssS_all (s : Nat) : ssS T s (2 ^ nT T - 1) = true := by
  unfold ssS
  rw [List.all_eq_true]
  intro m _
  unfold ssB
  by_cases e : are T m = tgA T s
  · simp [e]
  · have hx : are T m ^^^ tgA T s < 2 ^ nT T := xor_lt (ms_lt _ _) (ms_lt _ _)
    have h2 : ¬ (are T m ^^^ tgA T s) &&& (2 ^ nT T - 1) = 0 := by
      rw [Nat.and_two_pow_sub_one_eq_mod, Nat.mod_eq_of_lt hx]
      intro q
      exact e (xor0 q)
    simp only [h2, decide_false, Bool.and_false, Bool.not_false]
theorem cnt_bits : ∀ (n a : Nat), n ≤ cnt a n → ∀ i, i < n → a.testBit i = true
  | 0, _, _, i, hi => absurd hi (Nat.not_lt_zero i)
  | n + 1, a, h, i, hi => by
    have h : n + 1 ≤ cnt a n + (a.testBit n).toNat := h
    have h1 := cnt_le a n
    have h2 : (a.testBit n).toNat ≤ 1 := by cases a.testBit n <;> decide
    by_cases e : i = n
    · subst e
      cases hb : a.testBit i with
      | true => rfl
      | false => rw [hb] at h; have : false.toNat = 0 := rfl; omega
    · exact cnt_bits n a (by omega) i (by omega)
theorem cnt_full {n a : Nat} (ha : a < 2 ^ n) (h : n ≤ cnt a n) : a = 2 ^ n - 1 := by
  apply Nat.eq_of_testBit_eq
  intro i
  rw [Nat.testBit_two_pow_sub_one]
  by_cases hi : i < n
  · rw [cnt_bits n a h i hi, decide_eq_true hi]
  · rw [decide_eq_false hi, Nat.testBit_lt_two_pow (Nat.lt_of_lt_of_le ha (Nat.pow_le_pow_right (by decide) (by omega)))]
theorem cnt_all (n : Nat) : ∀ k, k ≤ n → cnt (2 ^ n - 1) k = k
  | 0, _ => rfl
  | k + 1, h => by
    show cnt (2 ^ n - 1) k + ((2 ^ n - 1).testBit k).toNat = k + 1
    rw [cnt_all n k (by omega), Nat.testBit_two_pow_sub_one, decide_eq_true (by omega)]
    rfl
theorem bCM (wT : WT T) (s : Nat) : ∀ j, j ≤ 2 ^ nT T → (bM T s j = none → bC T s j = 2 ^ nT T - 1) ∧ (∀ b, bM T s j = some b → bC T s j = b ∧ b < j) ∧ (2 ^ nT T ≤ j → bM T s j ≠ none)
  | 0, _ => ⟨fun _ => rfl, fun b h => (by cases h), fun h => (by have := Nat.two_pow_pos (nT T); omega)⟩
  | j + 1, hj => by
    obtain ⟨h1, h2, h3⟩ := bCM wT s j (by omega)
    have h8 := wT.1
    cases hb : bM T s j with
    | none =>
      have hC := h1 hb
      cases hs : ssS T s j with
      | false =>
        have e1 : bM T s (j + 1) = none := by simp [bM, hb, hs]
        have e2 : bC T s (j + 1) = bC T s j := by simp [bC, hs]
        refine ⟨fun _ => (by rw [e2, hC]), fun b h => (by rw [e1] at h; cases h), fun h => ?_⟩
        exfalso
        have : j = 2 ^ nT T - 1 := by omega
        rw [this, ssS_all] at hs
        cases hs
      | true =>
        have e1 : bM T s (j + 1) = some j := by simp [bM, hb, hs]
        refine ⟨fun h => (by rw [e1] at h; cases h), fun b h => ?_, fun _ h => (by rw [e1] at h; cases h)⟩
        rw [e1] at h
        cases h
        refine ⟨?_, Nat.lt_succ_self _⟩
        have e3 : cnt (2 ^ nT T - 1) 12 = nT T := by
          rw [cnt_hi (k := nT T) (Nat.sub_lt (Nat.two_pow_pos _) (by decide)) 12 (by omega), cnt_all _ _ (Nat.le_refl _)]
        show (if cnt j 12 < cnt (bC T s j) 12 ∧ ssS T s j = true then j else bC T s j) = j
        rw [hC, e3, hs]
        by_cases hc : cnt j 12 < nT T
        · rw [if_pos ⟨hc, rfl⟩]
        · rw [if_neg (fun q => hc q.1)]
          rw [cnt_hi (k := nT T) (by omega) 12 (by omega)] at hc
          exact (cnt_full (by omega) (by omega)).symm
    | some b =>
      obtain ⟨hC, hlt⟩ := h2 b hb
      have e1 : bM T s (j + 1) = if cnt j 12 < cnt b 12 ∧ ssS T s j = true then some j else some b := by simp [bM, hb]
      have e2 : bC T s (j + 1) = if cnt j 12 < cnt b 12 ∧ ssS T s j = true then j else b := by
        show (if cnt j 12 < cnt (bC T s j) 12 ∧ ssS T s j = true then j else bC T s j) = _
        rw [hC]
      by_cases hc : cnt j 12 < cnt b 12 ∧ ssS T s j = true
      · rw [if_pos hc] at e1 e2
        exact ⟨fun h => (by rw [e1] at h; cases h), fun b' h => (by rw [e1] at h; cases h; exact ⟨e2, Nat.lt_succ_self _⟩), fun _ h => (by rw [e1] at h; cases h)⟩
      · rw [if_neg hc] at e1 e2
        exact ⟨fun h => (by rw [e1] at h; cases h), fun b' h => (by rw [e1] at h; cases h; exact ⟨e2, by omega⟩), fun _ h => (by rw [e1] at h; cases h)⟩
theorem bC_lt (s : Nat) : ∀ j, j ≤ 2 ^ nT T → bC T s j < 2 ^ nT T
  | 0, _ => Nat.sub_lt (Nat.two_pow_pos _) (by decide)
  | j + 1, hj => by
    show (if cnt j 12 < cnt (bC T s j) 12 ∧ ssS T s j = true then j else bC T s j) < _
    split
    · omega
    · exact bC_lt s j (by omega)
theorem ms0_iff (n : Nat) (f : Nat → Bool) : ms n f = 0 ↔ ((List.range n).any f) = false := by
  constructor
  · intro h
    rw [List.any_eq_false]
    intro k hk
    have := congrArg (fun z => z.testBit k) h
    simp only [ms_bit, Nat.zero_testBit, List.mem_range.mp hk, decide_true, Bool.true_and] at this
    rw [this]; decide
  · intro h
    apply Nat.eq_of_testBit_eq
    intro k
    rw [ms_bit, Nat.zero_testBit]
    by_cases hk : k < n
    · have := List.any_eq_false.mp h k (List.mem_range.mpr hk)
      rw [decide_eq_true hk, Bool.true_and]
      simpa using this
    · rw [decide_eq_false hk, Bool.false_and]
theorem m_areSure (d : Nat) {s e : Nat} (hs : s < nS T) (he : e < 256) (hsel : sel (O 6 0 0 1) = w) (hT : CT (O 4 w) T) (wT : WT T) : ex (d + 3) 115 0 [some (vr 6 0 0), some (vi (nI s)), some (vi (nI e))] [] O = some (bI (ssS T s e), O) := by
  have h12 := wT.2.1
  have h6 := wT.2.2.2.1
  have t1 := tgA_lt wT s
  rw [sX6_areSure_0, hsel, m_targetThings _ hs hT wT]
  simp only [Option.bind_some]
  refine (lp_f (fun m => ex (d + 3) 115 12 [some (vr 6 0 0), none, some (vi (nI e)), some (vi (nI (tgA T s))), some (vi (nI m))] [] O) (fun m => ssB T s e m) (fun _ => some (nI 0, O)) (nM T) (fun m hm => ?_)).trans ?_
  · have am := are_lt wT m
    have hms := ms_lt' (fun k => (can T k).testBit m) (n := nK T) (k := 6) h6
    have hand : (are T m ^^^ tgA T s) &&& e ≤ e := Nat.and_le_right
    refine (sX6_areSure_12 ..).trans ?_
    rw [hsel, hT.1.2.1, if_pos (nI_lt hm (by omega)), nI_clamp (by omega), if_pos (ib_n (by omega) (by decide)), (hT.2.2.1 m hm).2.2.2.1, m_kindsThatCan _ (m := m) (by omega) hT wT]
    simp only [Option.bind_some]
    by_cases e1 : are T m = tgA T s
    · rw [if_pos (by rw [e1]), sX6_areSure_55, if_pos rfl, nI_add]
      simp [ssB, e1]
    · rw [if_neg (by rw [nI_eq (by omega) (by omega)]; exact e1)]
      by_cases e2 : ms (nK T) (fun k => (can T k).testBit m) = 0
      · rw [if_pos (by rw [e2]), sX6_areSure_55, if_pos rfl, nI_add]
        have : ssM T m = false := (ms0_iff _ _).mp e2
        simp [ssB, this]
      · rw [if_neg (by rw [nI_eq (by omega) (by decide)]; exact e2), sX6_areSure_55, if_neg (by decide), nI_clamp (by omega), if_pos (ib_n (by omega) (by decide)), hsel, (hT.2.2.1 m hm).2.2.2.1, q_xor, q_and, nI_add]
        have : ssM T m = true := by
          cases hq : ssM T m with
          | true => rfl
          | false => exact absurd ((ms0_iff _ _).mpr hq) e2
        by_cases e3 : (are T m ^^^ tgA T s) &&& e = 0
        · rw [if_pos (by rw [e3])]
          simp [ssB, this, e1, e3]
        · rw [if_neg (by rw [nI_eq (by omega) (by decide)]; exact e3)]
          simp [ssB, this, e1, e3]
  · unfold ssS
    cases hf : (List.range (nM T)).find? (fun m => ssB T s e m) with
    | none =>
      refine (sX6_areSure_12 ..).trans ?_
      rw [hsel, hT.1.2.1, if_neg (nI_nlt (Nat.le_refl _) (by omega))]
      rw [List.find?_eq_none] at hf
      rw [List.all_eq_true.mpr (fun m hm => by have := hf m hm; simpa using this)]
      rfl
    | some m =>
      have h1 := List.find?_some hf
      have h2 := List.mem_of_find?_eq_some hf
      have : ((List.range (nM T)).all fun m => !ssB T s e m) = false := by
        rw [List.all_eq_false]
        exact ⟨m, h2, by rw [h1]; decide⟩
      rw [this]; rfl
theorem n_sure97 (d : Nat) {s c M : Nat} {o : Option Nat} {j : Nat} {b : Bool} (hs : s < nS T) (hj : j < 256) (hM : M < 4096) (hMb : ∀ m, m < nM T → M.testBit m = ssM T m) (hT : MT (O 7 0) T) (wT : WT T) : ex (d + 2) 200 97 [some (vr 7 0 0), some (vi (nI s)), some (vi (nI c)), some (vi (nI M)), some (vi (oI o)), some (vi (nI j)), some (vi (bI b)), some (vi (nI 0))] [] O = ex (d + 2) 200 161 [some (vr 7 0 0), some (vi (nI s)), some (vi (nI c)), some (vi (nI M)), some (vi (oI o)), some (vi (nI j)), some (vi (bI (b && ssS T s j)))] [] O := by
  have h12 := wT.2.1
  have t1 := tgA_lt wT s
  cases b with
  | false =>
    refine (sX7_sure_97 ..).trans ?_
    simp (disch := omega) only [nI_ltI, nI_eq, nI_add, nI_clamp, ib_n, pk_mul, q_and, q_or, q_dn, q_shl, q_shlm, q_p1, if_true, if_false, ↓reduceIte, Option.bind_some, bI_0, bI_1, bI_01, b_or, Nat.not_lt_zero, Nat.zero_add, Bool.false_eq_true, Bool.true_eq_false, or_false, or_true, true_or, false_or, hT.1.2.1]
    simp
  | true =>
    have lp := lp_f (fun m => ex (d + 2) 200 97 [some (vr 7 0 0), some (vi (nI s)), some (vi (nI c)), some (vi (nI M)), some (vi (oI o)), some (vi (nI j)), some (vi (bI true)), some (vi (nI m))] [] O) (fun m => ssB T s j m) (fun _ => ex (d + 2) 200 161 [some (vr 7 0 0), some (vi (nI s)), some (vi (nI c)), some (vi (nI M)), some (vi (oI o)), some (vi (nI j)), some (vi (bI false))] [] O) (nM T) (fun m hm => by
      have am := are_lt wT m
      have hx : are T m ^^^ tgA T s < 2 ^ 8 := xor_lt am t1
      have hand : (are T m ^^^ tgA T s) &&& j ≤ j := Nat.and_le_right
      have hmb := hMb m hm
      refine (sX7_sure_97 ..).trans ?_
      simp (disch := omega) only [nI_ltI, nI_eq, nI_add, nI_clamp, ib_n, pk_mul, q_and, q_or, q_dn, q_shl, q_shlm, q_p1, if_true, if_false, ↓reduceIte, Option.bind_some, bI_0, bI_1, bI_01, b_or, Nat.not_lt_zero, Nat.zero_add, Bool.false_eq_true, Bool.true_eq_false, or_false, or_true, true_or, false_or, hT.1.2.1, hm, n_targetOf _ hs hT wT, q_bitv, hmb, (hT.2.2.1 m hm).2.2, q_xor]
      cases hsm : ssM T m with
      | false => simp [ssB, hsm, bI]
      | true =>
        by_cases e1 : are T m = tgA T s
        · simp [ssB, e1, bI]
        · have e4 : ¬ are T m ^^^ tgA T s = 0 := fun q => e1 (xor0 q)
          by_cases e3 : (are T m ^^^ tgA T s) &&& j = 0
          · simp only [ssB, hsm, e1, e3, e4, decide_true, decide_false, Bool.not_false, Bool.and_self, if_true, if_false, Bool.true_eq_false]
            refine (sX7_sure_97 ..).trans ?_
            simp (disch := omega) only [nI_ltI, nI_eq, nI_add, nI_clamp, ib_n, pk_mul, q_and, q_or, q_dn, q_shl, q_shlm, q_p1, if_true, if_false, ↓reduceIte, Option.bind_some, bI_0, bI_1, bI_01, b_or, Nat.not_lt_zero, Nat.zero_add, Bool.false_eq_true, Bool.true_eq_false, or_false, or_true, true_or, false_or, hT.1.2.1]
            by_cases q : m + 1 < nM T
            · rw [if_pos q]; rfl
            · rw [if_neg q]; rfl
          · simp [ssB, hsm, e1, e3, e4, bI])
    refine lp.trans ?_
    unfold ssS
    cases hf : (List.range (nM T)).find? (fun m => ssB T s j m) with
    | none =>
      refine (sX7_sure_97 ..).trans ?_
      rw [hT.1.2.1, if_neg (nI_nlt (Nat.le_refl _) (by omega))]
      rw [List.find?_eq_none] at hf
      rw [List.all_eq_true.mpr (fun m hm => by have := hf m hm; simpa using this)]
      rfl
    | some m =>
      have h1 := List.find?_some hf
      have h2 := List.mem_of_find?_eq_some hf
      have : ((List.range (nM T)).all fun m => !ssB T s j m) = false := by
        rw [List.all_eq_false]
        exact ⟨m, h2, by rw [h1]; decide⟩
      rw [this]; rfl
end
theorem q_sure (x y : Int32) : Cal 95 200 [some (vi x), some (vi y)] := Cal.q fun O A hw hc hm => by
  obtain ⟨w, cw, c9, hT, hS, hI, hB, hM, hP, hF, hSh⟩ := hc
  have hsel := cw.sel
  obtain ⟨mT, mSc, mIm, mN, mP, mF, mSh, mt⟩ := hm
  have hw' := hw
  obtain ⟨wT, wS, wI, wP, wF, wSh, wt⟩ := hw
  have h8 := wT.1
  have h12 := wT.2.1
  have h4 := wT.2.2.1
  have h6 := wT.2.2.2.1
  have wMd : WMd A.1 (mds A.1 A.2.1.2.1 A.2.1.1) := mds_wf _ (by have := wS.1; omega)
  have kmC : ∀ k, k < nK A.1 → KM (O 0 0) k ((mds A.1 A.2.1.2.1 A.2.1.1).2 k) := fun k hk => hM.2.2 k hk (by rw [Nat.testBit_two_pow_sub_one, decide_eq_true hk])
  have kmN : ∀ k, k < nK A.1 → KN (O 7 0) (10 * k) ((mds A.1 A.2.1.2.1 A.2.1.1).2 k) := fun k hk => by have := mN.1 k hk; rwa [Nat.zero_add] at this
  have p8 : 2 ^ nT A.1 ≤ 2 ^ 8 := Nat.pow_le_pow_right (by decide) h8
  by_cases hx : hsI x (nS A.1) = true
  · have hx' := hx
    obtain ⟨s, hs, rfl⟩ := hsI_of (by omega) hx
    by_cases hy : hsI y 2 = true
    · have hy' := hy
      obtain ⟨c, hcc, rfl⟩ := hsI_of (by decide) hy
      have hlt := bC_lt (T := A.1) s (2 ^ nT A.1) (Nat.le_refl _)
      obtain ⟨g1, g2, g3⟩ := bCM wT s (2 ^ nT A.1) (Nat.le_refl _)
      have hbM : bM A.1 s (2 ^ nT A.1) = some (bC A.1 s (2 ^ nT A.1)) := by
        cases hb : bM A.1 s (2 ^ nT A.1) with
        | none => exact absurd hb (g3 (Nat.le_refl _))
        | some b => rw [(g2 b hb).1]
      -- the class
      have lc := lp_i (fun j (a : Nat) => ex (39 + 1) 95 33 [some (vr 6 0 0), some (vi (nI s)), some (vi (nI c)), some (vi (nI a)), some (vi (nI j))] [] O) (fun j a => a = bC A.1 s j) (2 ^ nT A.1) (fun j a hj ha => by
        have ha2 := bC_lt (T := A.1) s j (by omega)
        have c1 := cnt_le j 12
        have c2 := cnt_le (bC A.1 s j) 12
        refine ⟨bC A.1 s (j + 1), ?_, rfl⟩
        subst ha
        refine (sX6_sure_33 ..).trans ?_
        rw [hsel, hT.1.1, q_shl _ (by omega), if_pos (nI_lt hj (by omega)), m_bitCount _ _ (by omega)]
        simp only [Option.bind_some]
        rw [m_bitCount _ _ (by omega)]
        simp only [Option.bind_some]
        rw [m_areSure 36 hs (by omega) hsel hT wT]
        simp only [Option.bind_some, bI_0]
        rw [nI_add]
        by_cases hc2 : cnt j 12 < cnt (bC A.1 s j) 12
        · rw [if_pos (nI_lt hc2 (by omega))]
          cases hss : ssS A.1 s j <;> simp [bC, hc2, hss]
        · rw [if_neg (nI_nlt (by omega) (by omega))]
          simp [bC, hc2]) (2 ^ nT A.1 - 1) rfl
      obtain ⟨a, ea, ha⟩ := lc
      -- the model
      have h6' := h6
      have lm0 := lp_i (fun k (a : Nat) => ex (39 + 1) 200 25 [some (vr 7 0 0), some (vi (nI s)), some (vi (nI c)), some (vi (nI a)), some (vi (nI k))] [] O) (fun k a => a < 2 ^ 12 ∧ ∀ m, m < nM A.1 → a.testBit m = (List.range k).any fun k => (can A.1 k).testBit m) (nK A.1) (fun k a hk ha => by
        have hck := can_lt wT k
        refine ⟨a ||| can A.1 k, ?_, Nat.or_lt_two_pow ha.1 hck, fun m hm => by rw [Nat.testBit_or, ha.2 m hm, List.range_succ, List.any_append]; simp⟩
        refine (sX7_sure_25 ..).trans ?_
        simp (disch := omega) only [nI_ltI, nI_eq, nI_add, nI_clamp, ib_n, pk_mul, q_and, q_or, q_dn, q_shl, q_shlm, q_p1, if_true, if_false, ↓reduceIte, Option.bind_some, bI_0, bI_1, bI_01, b_or, Nat.not_lt_zero, Nat.zero_add, Bool.false_eq_true, Bool.true_eq_false, or_false, or_true, true_or, false_or, mT.1.2.2.2, hk, n_canThink _ hk mT wT]) 0 ⟨Nat.two_pow_pos _, fun m _ => by simp⟩
      obtain ⟨M, eM, hM, hMb⟩ := lm0
      have lm := lp_i (fun j (o : Option Nat) => ex (39 + 1) 200 56 [some (vr 7 0 0), some (vi (nI s)), some (vi (nI c)), some (vi (nI M)), some (vi (oI o)), some (vi (nI j))] [] O) (fun j o => o = bM A.1 s j) (2 ^ nT A.1) (fun j o hj ho => by
        obtain ⟨k1, k2, k3⟩ := bCM wT s j (by omega)
        have c1 := cnt_le j 12
        have cj : cnt j 16 = cnt j 12 := by rw [cnt_hi (k := 12) (by omega) 16 (by omega)]
        refine ⟨bM A.1 s (j + 1), ?_, rfl⟩
        refine (sX7_sure_56 ..).trans ?_
        rw [mT.1.1, q_shl _ (by omega), if_pos (nI_lt hj (by omega))]
        subst ho
        have tail : ∀ b : Bool, ex (39 + 1) 200 161 [some (vr 7 0 0), some (vi (nI s)), some (vi (nI c)), some (vi (nI M)), some (vi (oI (bM A.1 s j))), some (vi (nI j)), some (vi (bI b))] [] O = ex (39 + 1) 200 56 [some (vr 7 0 0), some (vi (nI s)), some (vi (nI c)), some (vi (nI M)), some (vi (oI (if b = true then some j else bM A.1 s j))), some (vi (nI (j + 1)))] [] O := fun b => by
          rw [sX7_sure_161, nI_add]
          cases b
          · exact (if_pos bI_f).trans rfl
          · rw [if_neg (by decide)]; rfl
        cases hb : bM A.1 s j with
        | none =>
          rw [if_pos rfl]
          have := n_sure97 38 (O := O) (c := c) (o := none) (j := j) (b := true) hs (by omega) hM hMb mT wT
          rw [bI_t] at this
          rw [hb] at tail
          rw [this, tail]
          simp only [Bool.true_and, bM, hb]
        | some b =>
          obtain ⟨k4, k5⟩ := k2 b hb
          have cb : cnt b 16 = cnt b 12 := by rw [cnt_hi (k := 12) (by omega) 16 (by omega)]
          have c2 := cnt_le b 12
          rw [if_neg (oI_sn (by omega)), m_countOf _ _ (by omega)]
          simp only [Option.bind_some, oI]
          rw [m_countOf _ _ (by omega)]
          simp only [Option.bind_some]
          rw [cj, cb]
          rw [hb] at tail
          by_cases hc2 : cnt j 12 < cnt b 12
          · rw [if_pos (nI_lt hc2 (by omega))]
            have := n_sure97 38 (O := O) (c := c) (o := some b) (j := j) (b := true) hs (by omega) hM hMb mT wT
            rw [bI_t] at this
            refine this.trans ((tail _).trans ?_)
            simp only [Bool.true_and, bM, hb, hc2, true_and]
            rfl
          · rw [if_neg (nI_nlt (by omega) (by omega))]
            have := n_sure97 38 (O := O) (c := c) (o := some b) (j := j) (b := false) hs (by omega) hM hMb mT wT
            rw [bI_f] at this
            refine this.trans ((tail _).trans ?_)
            simp only [Bool.false_and, bM, hb, hc2, false_and, if_false, Bool.false_eq_true]
            rfl) none rfl
      obtain ⟨o, eo, ho⟩ := lm
      have cbe : cnt (bC A.1 s (2 ^ nT A.1)) 16 = cnt (bC A.1 s (2 ^ nT A.1)) 12 := by rw [cnt_hi (k := 12) (by omega) 16 (by omega)]
      refine ⟨if c = 0 then nI (cnt (bC A.1 s (2 ^ nT A.1)) 12) else nI (bC A.1 s (2 ^ nT A.1)), ?_, ?_⟩
      · rw [sX6_sure_0]
        simp (disch := omega) only [nI_ltI, nI_eq, nI_add, nI_clamp, ib_n, pk_mul, q_and, q_or, q_dn, q_shl, q_shlm, q_p1, if_true, if_false, ↓reduceIte, Option.bind_some, bI_0, bI_1, bI_01, b_or, Nat.not_lt_zero, Nat.zero_add, Bool.false_eq_true, Bool.true_eq_false, or_false, or_true, true_or, false_or, hsel, m_hasSound (h := hT), hx', m_allThings 38 hT wT]
        rw [if_neg (by omega)]
        refine ea.trans ((sX6_sure_33 ..).trans ?_)
        rw [hsel, hT.1.1, q_shl _ (by omega), if_neg (nI_nlt (Nat.le_refl _) (by omega)), ha, m_bitCount _ _ (by omega)]
        simp (disch := omega) only [nI_ltI, nI_eq, nI_add, nI_clamp, ib_n, pk_mul, q_and, q_or, q_dn, q_shl, q_shlm, q_p1, if_true, if_false, ↓reduceIte, Option.bind_some, bI_0, bI_1, bI_01, b_or, Nat.not_lt_zero, Nat.zero_add, Bool.false_eq_true, Bool.true_eq_false, or_false, or_true, true_or, false_or]
        split <;> rfl
      · rw [sX7_sure_0]
        simp (disch := omega) only [nI_ltI, nI_eq, nI_add, nI_clamp, ib_n, pk_mul, q_and, q_or, q_dn, q_shl, q_shlm, q_p1, if_true, if_false, ↓reduceIte, Option.bind_some, bI_0, bI_1, bI_01, b_or, Nat.not_lt_zero, Nat.zero_add, Bool.false_eq_true, Bool.true_eq_false, or_false, or_true, true_or, false_or, n_isSound (h := mT) (hT := wT), hx', m_in _ _ (nI c) (nI 0) (nI 1) (a := 0) (b := 1) (by decide) (by decide), inI_c, hy']
        refine eM.trans ((sX7_sure_25 ..).trans ?_)
        rw [mT.1.2.2.2, if_neg (nI_nlt (Nat.le_refl _) (by omega))]
        refine eo.trans ((sX7_sure_56 ..).trans ?_)
        rw [mT.1.1, q_shl _ (by omega), if_neg (nI_nlt (Nat.le_refl _) (by omega)), ho, hbM]
        simp only [oI]
        rw [m_countOf _ _ (by omega), cbe]
        simp (disch := omega) only [nI_ltI, nI_eq, nI_add, nI_clamp, ib_n, pk_mul, q_and, q_or, q_dn, q_shl, q_shlm, q_p1, if_true, if_false, ↓reduceIte, Option.bind_some, bI_0, bI_1, bI_01, b_or, Nat.not_lt_zero, Nat.zero_add, Bool.false_eq_true, Bool.true_eq_false, or_false, or_true, true_or, false_or]
        split <;> rfl
    · have hy := bool_ne hy
      refine ⟨-1, ?_, ?_⟩
      · rw [sX6_sure_0]
        simp (disch := omega) only [nI_ltI, nI_eq, nI_add, nI_clamp, ib_n, pk_mul, q_and, q_or, q_dn, q_shl, q_shlm, q_p1, if_true, if_false, ↓reduceIte, Option.bind_some, bI_0, bI_1, bI_01, b_or, Nat.not_lt_zero, Nat.zero_add, Bool.false_eq_true, Bool.true_eq_false, or_false, or_true, true_or, false_or, hsel, m_hasSound (h := hT), hx']
        exact hsI_no (by decide) hy _ _
      · rw [sX7_sure_0]
        simp (disch := omega) only [nI_ltI, nI_eq, nI_add, nI_clamp, ib_n, pk_mul, q_and, q_or, q_dn, q_shl, q_shlm, q_p1, if_true, if_false, ↓reduceIte, Option.bind_some, bI_0, bI_1, bI_01, b_or, Nat.not_lt_zero, Nat.zero_add, Bool.false_eq_true, Bool.true_eq_false, or_false, or_true, true_or, false_or, n_isSound (h := mT) (hT := wT), hx', m_in _ _ y (nI 0) (nI 1) (a := 0) (b := 1) (by decide) (by decide), inI_c, hy]
  · have hx := bool_ne hx
    refine ⟨-1, ?_, ?_⟩
    · rw [sX6_sure_0]
      simp (disch := omega) only [nI_ltI, nI_eq, nI_add, nI_clamp, ib_n, pk_mul, q_and, q_or, q_dn, q_shl, q_shlm, q_p1, if_true, if_false, ↓reduceIte, Option.bind_some, bI_0, bI_1, bI_01, b_or, Nat.not_lt_zero, Nat.zero_add, Bool.false_eq_true, Bool.true_eq_false, or_false, or_true, true_or, false_or, hsel, m_hasSound (h := hT), hx]
    · rw [sX7_sure_0]
      simp (disch := omega) only [nI_ltI, nI_eq, nI_add, nI_clamp, ib_n, pk_mul, q_and, q_or, q_dn, q_shl, q_shlm, q_p1, if_true, if_false, ↓reduceIte, Option.bind_some, bI_0, bI_1, bI_01, b_or, Nat.not_lt_zero, Nat.zero_add, Bool.false_eq_true, Bool.true_eq_false, or_false, or_true, true_or, false_or, n_isSound (h := mT) (hT := wT), hx]
end
