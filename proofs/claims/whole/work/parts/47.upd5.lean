/-! THE TAPE: feed, end. -/
section
theorem CI.tape {O O' : Mem_} {A : A_} (tp : Nat × (Nat → Nat)) (h : CI O A) (e : ∀ c, c ≠ 3 → O' c = O c) (e2 : O' 3 0 0 2 = O 3 0 0 2) (hP : CTp (O' 3 0) tp) : CI O' (A.1, A.2.1, A.2.2.1, tp, A.2.2.2.2) := by
  obtain ⟨w, cw, c9, hT, hS, hI, hB, hM, -, hF, hSh⟩ := h
  exact ⟨w, by rw [e 6 (by decide)]; exact cw, by rw [e 6 (by decide)]; exact c9, by rw [e 4 (by decide)]; exact hT, by rw [e 1 (by decide)]; exact hS, by rw [e 1 (by decide)]; exact hI, by rw [e 1 (by decide)]; exact hB, by rw [e 0 (by decide)]; exact hM, hP, e2.trans hF, by rw [e 2 (by decide)]; exact hSh⟩
theorem MS.eq2 {R R' : Nat → Nat → Int32} {c : Sc_} (h : MS R c) (e : ∀ p q, p ≠ 20 → ¬ (p = 0 ∧ q = 20) → R' p q = R p q) : MS R' c := by
  refine ⟨?_, fun j hj => ?_, ?_, ?_, fun j hj => ?_⟩
  · rw [e _ _ (by decide) (by omega)]; exact h.1
  · rw [e _ _ (by decide) (by omega), e _ _ (by decide) (by omega), e _ _ (by decide) (by omega)]; exact h.2.1 j hj
  · rw [e _ _ (by decide) (by omega)]; exact h.2.2.1
  · rw [e _ _ (by decide) (by omega)]; exact h.2.2.2.1
  · rw [e _ _ (by decide) (by omega), e _ _ (by decide) (by omega)]; exact h.2.2.2.2 j hj
theorem MS.eq' {R R' : Nat → Nat → Int32} {c : Sc_} (h : MS R c) (e : ∀ p q, p ≠ 20 → ¬ (p = 0 ∧ q = 20) → R' p q = R p q) : MS R' c := h.eq2 fun p q a b => e p q a b
theorem MI.tape {O O' : Mem_} {A : A_} (tp : Nat × (Nat → Nat)) (h : MI (O 7 0) A) (e : ∀ p q, p ≠ 20 → ¬ (p = 0 ∧ q = 20) → O' 7 0 p q = O 7 0 p q) (hP : MTp (O' 7 0) tp) : MI (O' 7 0) (A.1, A.2.1, A.2.2.1, tp, A.2.2.2.2) := by
  obtain ⟨h1, h2, h3, h4, h5, h6, h7, h8⟩ := h
  exact ⟨h1.lo fun p q a b => e p q (by omega) (by omega), h2.eq' fun p q a b => e p q a b, fun i hi => (h3 i hi).of fun p q a b => e p q (by omega) (by omega), h4.eq fun q => e _ _ (by decide) (by omega), hP, (e _ _ (by decide) (by omega)).trans h6, h7.of fun p q a b => e p q (by omega) (by omega), (e _ _ (by decide) (by omega)).trans h8⟩
theorem q_end (x : Int32) : Cal 68 127 [some (vi x)] := Cal.of fun O A hw hc hm => by
  have hc' := hc
  have hm' := hm
  obtain ⟨w, cw, c9, hT, hS, hI, hB, hM, hP, hF, hSh⟩ := hc
  have hsel := cw.sel
  obtain ⟨mT, mSc, mIm, mN, mP, mF, mSh, mt⟩ := hm
  have hw' := hw
  obtain ⟨wT, wS, wI, wP, wF, wSh, wt⟩ := hw
  have h8 := wT.1
  have h12 := wT.2.1
  have h4 := wT.2.2.1
  have h6 := wT.2.2.2.1
  have wMd : WMd A.1 (mds A.1 A.2.1.2.1 A.2.1.1) := mds_wf _ (by have := wS.1; omega)
  have kmC : ∀ k, k < nK A.1 → KM (O 0 0) k ((mds A.1 A.2.1.2.1 A.2.1.1).2 k) := fun k hk => hM.2.2 k hk (by rw [Nat.testBit_two_pow_sub_one, decide_eq_true hk])
  have kmN : ∀ k, k < nK A.1 → KN (O 7 0) (10 * k) ((mds A.1 A.2.1.2.1 A.2.1.1).2 k) := fun k hk => by have := mN.1 k hk; rwa [Nat.zero_add] at this
  have hl := wP.1
  by_cases hx : hsI x (A.2.2.2.1.1 + 1) = true
  · have hx' := hx
    obtain ⟨j, hj, rfl⟩ := hsI_of (by omega) hx
    refine ⟨nI A.2.2.2.1.1, (A.1, A.2.1, A.2.2.1, (j, A.2.2.2.1.2), A.2.2.2.2), up O 3 0 0 1 (nI j), ⟨wT, wS, wI, ⟨Nat.le_trans (Nat.le_of_lt_succ hj) hl, wP.2⟩, wF, wSh, wt⟩, ?_, hc'.tape (j, A.2.2.2.1.2) (fun c z => funext fun n => up_row (Or.inl z)) (up_ne (by decide)) ⟨up_eq .., fun q hq => ?_⟩, funext fun n => up_row (Or.inl (by decide)), funext fun n => up_row (Or.inl (by decide)), up (up O 3 0 0 1 (nI j)) 7 0 0 20 (nI j), ?_, MI.tape (O := O) (j, A.2.2.2.1.2) hm' (fun p q a b => ?_) ⟨up_eq .., fun q hq => ?_⟩, fun c z => funext fun n => up_row (Or.inl z)⟩
    · rw [sX6_end_0]
      simp (disch := omega) only [nI_ltI, nI_eq, nI_add, nI_clamp, ib_n, pk_mul, q_and, q_or, q_dn, q_shl, q_shlm, q_p1, if_true, if_false, ↓reduceIte, Option.bind_some, bI_0, bI_1, bI_01, b_or, Nat.not_lt_zero, Nat.zero_add, Bool.false_eq_true, Bool.true_eq_false, or_false, or_true, true_or, false_or, hP.1]
      rw [if_neg (by omega)]
    · have hq : q < j := hq
      rw [up_ne (by omega)]; exact hP.2 q (by omega)
    · rw [sX7_end_0]
      simp (disch := omega) only [up_row]
      simp (disch := omega) only [nI_ltI, nI_eq, nI_add, nI_clamp, ib_n, pk_mul, q_and, q_or, q_dn, q_shl, q_shlm, q_p1, if_true, if_false, ↓reduceIte, Option.bind_some, bI_0, bI_1, bI_01, b_or, Nat.not_lt_zero, Nat.zero_add, Bool.false_eq_true, Bool.true_eq_false, or_false, or_true, true_or, false_or, mP.1, m_in _ _ (nI j) (nI 0) (nI A.2.2.2.1.1) (a := 0) (by decide) rfl, inI_c, hx']
      simp (disch := omega) only [up_row]
      simp (disch := omega) only [nI_ltI, nI_eq, nI_add, nI_clamp, ib_n, pk_mul, q_and, q_or, q_dn, q_shl, q_shlm, q_p1, if_true, if_false, ↓reduceIte, Option.bind_some, bI_0, bI_1, bI_01, b_or, Nat.not_lt_zero, Nat.zero_add, Bool.false_eq_true, Bool.true_eq_false, or_false, or_true, true_or, false_or, mP.1]
    · rw [up_ne (by omega), up_row (by decide)]
    · have hq : q < j := hq
      rw [up_ne (by omega), up_row (by decide)]; exact mP.2 q (by omega)
  · have hx := bool_ne hx
    refine CalAt.q hw' hc' hm' (-1) ?_ ?_
    · rw [sX6_end_0]
      unfold hsI at hx
      by_cases z : x < nI 0
      · rw [if_pos z]
      · rw [decide_eq_false z] at hx
        obtain ⟨j, hj, rfl⟩ := nI_of z
        have h2 : ¬ nI j < nI (A.2.2.2.1.1 + 1) := fun q => by rw [decide_eq_true q] at hx; cases hx
        rw [nI_ltI hj (by omega)] at h2
        simp (disch := omega) only [nI_ltI, nI_eq, nI_add, nI_clamp, ib_n, pk_mul, q_and, q_or, q_dn, q_shl, q_shlm, q_p1, if_true, if_false, ↓reduceIte, Option.bind_some, bI_0, bI_1, bI_01, b_or, Nat.not_lt_zero, Nat.zero_add, Bool.false_eq_true, Bool.true_eq_false, or_false, or_true, true_or, false_or, hP.1]
        rw [if_pos (by omega)]
    · rw [sX7_end_0]
      simp (disch := omega) only [nI_ltI, nI_eq, nI_add, nI_clamp, ib_n, pk_mul, q_and, q_or, q_dn, q_shl, q_shlm, q_p1, if_true, if_false, ↓reduceIte, Option.bind_some, bI_0, bI_1, bI_01, b_or, Nat.not_lt_zero, Nat.zero_add, Bool.false_eq_true, Bool.true_eq_false, or_false, or_true, true_or, false_or, mP.1, m_in _ _ x (nI 0) (nI A.2.2.2.1.1) (a := 0) (by decide) rfl, inI_c, hx]
/-- the byte i of v, the least first -/
def byt (v : Int64) (i : Nat) : Nat := v.toBitVec.toNat / 2 ^ (8 * i) % 256
theorem c_u : ∀ k, k < 64 → ((nI k).toInt64.toUInt64 &&& Int64.toUInt64 63) = UInt64.ofNat k := by decide +kernel
theorem c_s : ∀ k, k < 64 → ((nI k).toInt64 &&& 63) = Int64.ofNat k := by decide +kernel
theorem c_sm : ∀ k, k < 64 → ((Int64.ofNat k).toBitVec.smod 64).toNat = k := by decide +kernel
theorem byt_c (v : Int64) {i : Nat} (hi : i < 8) : Int64.toInt32 ((v.toUInt64 >>> ((nI (8 * i)).toInt64.toUInt64 &&& Int64.toUInt64 63)).toInt64) &&& nI 255 = nI (byt v i) := by
  rw [c_u _ (by omega), pk_and _ 8 (by decide)]
  congr 1
  have e1 : ∀ y : Int64, (Int64.toInt32 y).toBitVec.toNat = y.toBitVec.toNat % 2 ^ 32 := fun y => by
    rw [Int64.toBitVec_toInt32, BitVec.signExtend_eq_setWidth_of_le _ (by decide), BitVec.toNat_setWidth]
  rw [e1]
  have e2 : ((v.toUInt64 >>> UInt64.ofNat (8 * i)).toInt64).toBitVec.toNat = v.toBitVec.toNat / 2 ^ (8 * i) := by
    show (v.toUInt64 >>> UInt64.ofNat (8 * i)).toNat = _
    rw [UInt64.toNat_shiftRight, Nat.shiftRight_eq_div_pow, UInt64.toNat_ofNat', Nat.mod_eq_of_lt (a := 8 * i) (by omega), Nat.mod_eq_of_lt (a := 8 * i) (by omega)]
    rfl
  rw [e2, byt, Nat.mod_mod_of_dvd _ (by decide)]
theorem byt_m (v : Int64) {i : Nat} (hi : i < 8) : Int64.toInt32 ((v >>> ((nI (8 * i)).toInt64 &&& 63)) &&& 255) = nI (byt v i) := by
  rw [c_s _ (by omega)]
  apply Int32.toBitVec_inj.mp
  apply BitVec.eq_of_toNat_eq
  rw [Int64.toBitVec_toInt32, BitVec.signExtend_eq_setWidth_of_le _ (by decide), BitVec.toNat_setWidth, pk_tn (Nat.lt_trans (Nat.mod_lt _ (by decide)) (by decide) : byt v i < 2 ^ 32)]
  have e : ((v >>> Int64.ofNat (8 * i)) &&& 255).toBitVec.toNat = byt v i := by
    rw [Int64.toBitVec_and, BitVec.toNat_and]
    have : (255 : Int64).toBitVec.toNat = 2 ^ 8 - 1 := by decide
    rw [this, Nat.and_two_pow_sub_one_eq_mod]
    have e3 : (v >>> Int64.ofNat (8 * i)).toBitVec = v.toBitVec.sshiftRight (8 * i) := by
      show v.toBitVec.sshiftRight' _ = _
      rw [BitVec.sshiftRight', c_sm _ (by omega)]
    rw [e3, byt]
    apply Nat.eq_of_testBit_eq
    intro j
    rw [show (256 : Nat) = 2 ^ 8 by decide, Nat.testBit_mod_two_pow, Nat.testBit_mod_two_pow, Nat.testBit_div_two_pow]
    by_cases hj : j < 8
    · rw [decide_eq_true hj, Bool.true_and, Bool.true_and]
      show (v.toBitVec.sshiftRight (8 * i)).getLsbD j = v.toBitVec.getLsbD (j + 8 * i)
      rw [BitVec.getLsbD_sshiftRight, if_pos (by omega), decide_eq_false (by omega)]
      simp [Nat.add_comm]
    · rw [decide_eq_false hj, Bool.false_and, Bool.false_and]
  rw [e]
  exact Nat.mod_eq_of_lt (Nat.lt_of_lt_of_le (Nat.mod_lt _ (by decide)) (by decide))
theorem nI_m8 (n : Nat) : nI (n + 8) + (-8) = nI n := by
  rw [← nI_add, show (-8 : Int32) = - nI 8 by decide, Int32.add_neg_eq_sub, Int32.add_sub_cancel]
/-- the tape with some of eight bytes more -/
def tpf (tp : Nat × (Nat → Nat)) (v : Int64) (k : Nat) : Nat × (Nat → Nat) := (tp.1 + k, fun j => if tp.1 ≤ j then byt v (7 - (j - tp.1)) else tp.2 j)
theorem byt_lt (v : Int64) (i : Nat) : byt v i < 256 := Nat.mod_lt _ (by decide)
theorem m_put (d : Nat) {O : Mem_} {l : Nat} {x : Int32} (h : O 3 0 0 1 = nI l) (hl : l < 400) : ex (d + 1) 20 0 [some (vr 3 0 0), some (vi x)] [] O = some (nI 0, up (up O 3 0 1 l x) 3 0 0 1 (nI (l + 1))) := by
  rw [sX3_put_0]
  simp (disch := omega) only [nI_ltI, nI_eq, nI_add, nI_clamp, ib_n, pk_mul, q_and, q_or, q_dn, q_shl, q_shlm, q_p1, if_true, if_false, ↓reduceIte, Option.bind_some, bI_0, bI_1, bI_01, b_or, Nat.not_lt_zero, Nat.zero_add, Bool.false_eq_true, Bool.true_eq_false, or_false, or_true, true_or, false_or, h]
  simp (disch := omega) only [up_ne]
  simp (disch := omega) only [nI_ltI, nI_eq, nI_add, nI_clamp, ib_n, pk_mul, q_and, q_or, q_dn, q_shl, q_shlm, q_p1, if_true, if_false, ↓reduceIte, Option.bind_some, bI_0, bI_1, bI_01, b_or, Nat.not_lt_zero, Nat.zero_add, Bool.false_eq_true, Bool.true_eq_false, or_false, or_true, true_or, false_or, h]
  rw [if_pos hl]
theorem q_feed (v : Int64) : Cal 67 126 [some (vl v), none] := Cal.of fun O A hw hc hm => by
  have hc' := hc
  have hm' := hm
  obtain ⟨w, cw, c9, hT, hS, hI, hB, hM, hP, hF, hSh⟩ := hc
  have hsel := cw.sel
  obtain ⟨mT, mSc, mIm, mN, mP, mF, mSh, mt⟩ := hm
  have hw' := hw
  obtain ⟨wT, wS, wI, wP, wF, wSh, wt⟩ := hw
  have h8 := wT.1
  have h12 := wT.2.1
  have h4 := wT.2.2.1
  have h6 := wT.2.2.2.1
  have wMd : WMd A.1 (mds A.1 A.2.1.2.1 A.2.1.1) := mds_wf _ (by have := wS.1; omega)
  have kmC : ∀ k, k < nK A.1 → KM (O 0 0) k ((mds A.1 A.2.1.2.1 A.2.1.1).2 k) := fun k hk => hM.2.2 k hk (by rw [Nat.testBit_two_pow_sub_one, decide_eq_true hk])
  have kmN : ∀ k, k < nK A.1 → KN (O 7 0) (10 * k) ((mds A.1 A.2.1.2.1 A.2.1.1).2 k) := fun k hk => by have := mN.1 k hk; rwa [Nat.zero_add] at this
  have hl := wP.1
  generalize hl0 : A.2.2.2.1.1 = l at hl
  have hP1 : O 3 0 0 1 = nI l := by rw [← hl0]; exact hP.1
  have mP1 : O 7 0 0 20 = nI l := by rw [← hl0]; exact mP.1
  by_cases hf : 392 < l
  · refine CalAt.q hw' hc' hm' (-3) ?_ ?_
    · rw [sX6_feed_0]
      simp (disch := omega) only [nI_ltI, nI_eq, nI_add, nI_clamp, ib_n, pk_mul, q_and, q_or, q_dn, q_shl, q_shlm, q_p1, if_true, if_false, ↓reduceIte, Option.bind_some, bI_0, bI_1, bI_01, b_or, Nat.not_lt_zero, Nat.zero_add, Bool.false_eq_true, Bool.true_eq_false, or_false, or_true, true_or, false_or, hP1]
      rw [if_pos hf]
    · rw [sX7_feed_0]
      simp (disch := omega) only [nI_ltI, nI_eq, nI_add, nI_clamp, ib_n, pk_mul, q_and, q_or, q_dn, q_shl, q_shlm, q_p1, if_true, if_false, ↓reduceIte, Option.bind_some, bI_0, bI_1, bI_01, b_or, Nat.not_lt_zero, Nat.zero_add, Bool.false_eq_true, Bool.true_eq_false, or_false, or_true, true_or, false_or, mP1]
      rw [if_pos (by omega)]
  · have wP' : (tpf A.2.2.2.1 v 8).1 ≤ 400 ∧ ∀ j, (tpf A.2.2.2.1 v 8).2 j < 256 := by
      refine ⟨by simp only [tpf]; omega, fun j => ?_⟩
      simp only [tpf]
      split
      · exact byt_lt _ _
      · exact wP.2 j
    -- the class
    have lc := lp_i (fun k (O : Mem_) => ex (38 + 2) 67 19 [some (vr 6 0 0), some (vl v), none, some (vi (nI (8 - k) + (-1)))] [] O) (fun k O' => (∀ c, c ≠ 3 → O' c = O c) ∧ O' 3 0 0 2 = O 3 0 0 2 ∧ CTp (O' 3 0) (tpf A.2.2.2.1 v k)) 8 (fun k O' hk hp => by
      obtain ⟨h1, h2, h3, h5⟩ := hp
      have h3 : O' 3 0 0 1 = nI (l + k) := by rw [h3, ← hl0]; rfl
      have e7 : nI (8 - k) + (-1) = nI (7 - k) := by rw [show 8 - k = (7 - k) + 1 by omega, pk_m1]
      refine ⟨up (up O' 3 0 1 (l + k) (nI (byt v (7 - k)))) 3 0 0 1 (nI (l + k + 1)), ?_, fun c z => ?_, ?_, ?_, fun j hj => ?_⟩
      · rw [e7, show 8 - (k + 1) = 7 - k by omega]
        refine (sX6_feed_19 ..).trans ?_
        simp (disch := omega) only [nI_ltI, nI_eq, nI_add, nI_clamp, ib_n, pk_mul, q_and, q_or, q_dn, q_shl, q_shlm, q_p1, if_true, if_false, ↓reduceIte, Option.bind_some, bI_0, bI_1, bI_01, b_or, Nat.not_lt_zero, Nat.zero_add, Bool.false_eq_true, Bool.true_eq_false, or_false, or_true, true_or, false_or, pk_mul]
        rw [byt_c v (by omega), m_put 38 h3 (by omega)]
        simp (disch := omega) only [nI_ltI, nI_eq, nI_add, nI_clamp, ib_n, pk_mul, q_and, q_or, q_dn, q_shl, q_shlm, q_p1, if_true, if_false, ↓reduceIte, Option.bind_some, bI_0, bI_1, bI_01, b_or, Nat.not_lt_zero, Nat.zero_add, Bool.false_eq_true, Bool.true_eq_false, or_false, or_true, true_or, false_or]
      · funext n; rw [up_row (Or.inl z), up_row (Or.inl z), h1 c z]
      · rw [up_ne (by omega), up_ne (by omega)]; exact h2
      · rw [up_eq]; simp only [tpf]; rw [hl0]; rfl
      · have hj : j < A.2.2.2.1.1 + (k + 1) := hj
        by_cases e : j = l + k
        · subst e
          rw [up_ne (by omega), up_eq]
          simp only [tpf]
          rw [if_pos (by omega), hl0, Nat.add_sub_cancel_left]
        · rw [up_ne (by omega), up_ne (by omega)]
          exact h5 j (by simp only [tpf]; omega)) O ⟨fun _ _ => rfl, rfl, by rw [hP1]; simp only [tpf]; rw [hl0]; rfl, fun j hj => by
            have hj : j < A.2.2.2.1.1 + 0 := hj
            simp only [tpf]
            rw [if_neg (by omega)]; exact hP.2 j hj⟩
    obtain ⟨O1, e1, r1, f1, t1⟩ := lc
    have m1 : MI (O1 7 0) A := by rw [r1 7 (by decide)]; exact hm'
    have t11 : O1 3 0 0 1 = nI (l + 8) := by rw [t1.1]; simp only [tpf]; rw [hl0]
    -- the model
    have lm := lp_i (fun k (O : Mem_) => ex (39 + 1) 126 19 [some (vr 7 0 0), some (vl v), none, some (vi (nI (64 - 8 * k) + (-8)))] [] O) (fun k O' => (∀ c, c ≠ 7 → O' c = O1 c) ∧ (∀ p q, p ≠ 20 → ¬ (p = 0 ∧ q = 20) → O' 7 0 p q = O1 7 0 p q) ∧ MTp (O' 7 0) (tpf A.2.2.2.1 v k)) 8 (fun k O' hk hp => by
      obtain ⟨h1, h2, h3, h5⟩ := hp
      have h3 : O' 7 0 0 20 = nI (l + k) := by rw [h3, ← hl0]; rfl
      have e7 : nI (64 - 8 * k) + (-8) = nI (8 * (7 - k)) := by rw [show 64 - 8 * k = 8 * (7 - k) + 8 by omega, nI_m8]
      refine ⟨up (up O' 7 0 20 (l + k) (nI (byt v (7 - k)))) 7 0 0 20 (nI (l + k + 1)), ?_, fun c z => ?_, fun p q a b => ?_, ?_, fun j hj => ?_⟩
      · rw [e7, show 64 - 8 * (k + 1) = 8 * (7 - k) by omega]
        refine (sX7_feed_19 ..).trans ?_
        simp (disch := omega) only [nI_ltI, nI_eq, nI_add, nI_clamp, ib_n, pk_mul, q_and, q_or, q_dn, q_shl, q_shlm, q_p1, if_true, if_false, ↓reduceIte, Option.bind_some, bI_0, bI_1, bI_01, b_or, Nat.not_lt_zero, Nat.zero_add, Bool.false_eq_true, Bool.true_eq_false, or_false, or_true, true_or, false_or, h3]
        rw [byt_m v (by omega)]
        simp (disch := omega) only [up_ne]
        simp (disch := omega) only [nI_ltI, nI_eq, nI_add, nI_clamp, ib_n, pk_mul, q_and, q_or, q_dn, q_shl, q_shlm, q_p1, if_true, if_false, ↓reduceIte, Option.bind_some, bI_0, bI_1, bI_01, b_or, Nat.not_lt_zero, Nat.zero_add, Bool.false_eq_true, Bool.true_eq_false, or_false, or_true, true_or, false_or, h3]
      · funext n; rw [up_row (Or.inl z), up_row (Or.inl z), h1 c z]
      · rw [up_ne (by omega), up_ne (by omega)]; exact h2 p q a b
      · rw [up_eq]; simp only [tpf]; rw [hl0]; rfl
      · have hj : j < A.2.2.2.1.1 + (k + 1) := hj
        by_cases e : j = l + k
        · subst e
          rw [up_ne (by omega), up_eq]
          simp only [tpf]
          rw [if_pos (by omega), hl0, Nat.add_sub_cancel_left]
        · rw [up_ne (by omega), up_ne (by omega)]
          exact h5 j (by simp only [tpf]; omega)) O1 ⟨fun _ _ => rfl, fun _ _ _ _ => rfl, by rw [r1 7 (by decide), mP1]; simp only [tpf]; rw [hl0]; rfl, fun j hj => by
            have hj : j < A.2.2.2.1.1 + 0 := hj
            simp only [tpf]
            rw [r1 7 (by decide), if_neg (by omega)]; exact mP.2 j hj⟩
    obtain ⟨O2, e2, r2, f2, t2⟩ := lm
    have t21 : O2 7 0 0 20 = nI (l + 8) := by rw [t2.1]; simp only [tpf]; rw [hl0]
    refine ⟨nI (l + 8), (A.1, A.2.1, A.2.2.1, tpf A.2.2.2.1 v 8, A.2.2.2.2), O1, ⟨wT, wS, wI, wP', wF, wSh, wt⟩, ?_, hc'.tape (tpf A.2.2.2.1 v 8) r1 f1 t1, r1 7 (by decide), r1 8 (by decide), O2, ?_, MI.tape (tpf A.2.2.2.1 v 8) m1 f2 t2, r2⟩
    · rw [sX6_feed_0]
      simp (disch := omega) only [nI_ltI, nI_eq, nI_add, nI_clamp, ib_n, pk_mul, q_and, q_or, q_dn, q_shl, q_shlm, q_p1, if_true, if_false, ↓reduceIte, Option.bind_some, bI_0, bI_1, bI_01, b_or, Nat.not_lt_zero, Nat.zero_add, Bool.false_eq_true, Bool.true_eq_false, or_false, or_true, true_or, false_or, hP1]
      rw [if_neg hf]
      refine Eq.trans ?_ (e1.trans ?_)
      · rw [show 8 - 0 = 7 + 1 by decide, pk_m1]
      · refine (sX6_feed_19 ..).trans ?_
        rw [if_pos (by decide), t11]
    · rw [sX7_feed_0, m1.2.2.2.2.1.1, hl0]
      simp (disch := omega) only [nI_ltI, nI_eq, nI_add, nI_clamp, ib_n, pk_mul, q_and, q_or, q_dn, q_shl, q_shlm, q_p1, if_true, if_false, ↓reduceIte, Option.bind_some, bI_0, bI_1, bI_01, b_or, Nat.not_lt_zero, Nat.zero_add, Bool.false_eq_true, Bool.true_eq_false, or_false, or_true, true_or, false_or]
      rw [if_neg (by omega)]
      refine Eq.trans ?_ (e2.trans ?_)
      · rw [show 64 - 8 * 0 = 56 + 8 by decide, nI_m8]
      · refine (sX7_feed_19 ..).trans ?_
        rw [if_pos (by decide), t21]
end
