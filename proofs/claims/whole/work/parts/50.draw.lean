/-! draw. -/
section
theorem dr_lt (X : Int32) : dr X < 32768 := Nat.mod_lt _ (by decide)
theorem dr_key {O : Mem_} {T : Td_} {w : Nat} (hsel : sel (O 6 0 0 1) = w) (hT : CT (O 4 w) T) (mT : MT (O 7 0) T) (wT : WT T) : ∀ n k a, k + n = nK T → a + sm k (fun k => ch_ T k) < sm (nK T) (fun k => ch_ T k) → a < 1000 → ∃ r, ex (39 + 1) 101 44 [some (vr 6 0 0), none, none, some (vi (nI a)), some (vi (nI k))] [] O = some (r, O) ∧ ex (39 + 1) 208 34 [some (vr 7 0 0), none, some (vi (nI a)), some (vi (nI k))] [] O = some (r, O) := by
  have h6 := wT.2.2.2.1
  intro n
  induction n with
  | zero =>
    intro k a hk ha
    rw [show nK T = k by omega] at ha
    omega
  | succ n ih =>
    intro k a hk ha hb
    have hk' : k < nK T := by omega
    have hch := (wT.2.2.2.2.2.2.2.1 k).2.2
    by_cases hlt : a < ch_ T k
    · refine ⟨nI k, ?_, ?_⟩
      · refine (sX6_draw_44 ..).trans ?_
        simp (disch := omega) only [nI_ltI, nI_eq, nI_add, nI_clamp, ib_n, pk_mul, q_and, q_or, q_dn, q_shl, q_shlm, q_p1, if_true, if_false, ↓reduceIte, Option.bind_some, bI_0, bI_1, bI_01, b_or, Nat.not_lt_zero, Nat.zero_add, Bool.false_eq_true, Bool.true_eq_false, or_false, or_true, true_or, false_or, hsel, hT.1.2.2.2, (hT.2.2.2.2 k hk').2.2.2.2.1]
        rw [if_pos hk', if_pos (by have := pk_sneg (a := a) (b := ch_ T k) (by omega) hlt; exact this)]
      · refine (sX7_draw_34 ..).trans ?_
        simp (disch := omega) only [nI_ltI, nI_eq, nI_add, nI_clamp, ib_n, pk_mul, q_and, q_or, q_dn, q_shl, q_shlm, q_p1, if_true, if_false, ↓reduceIte, Option.bind_some, bI_0, bI_1, bI_01, b_or, Nat.not_lt_zero, Nat.zero_add, Bool.false_eq_true, Bool.true_eq_false, or_false, or_true, true_or, false_or, (mT.2.2.2.2 k hk').2.2.2.2]
        rw [if_pos hlt]
    · obtain ⟨r, r1, r2⟩ := ih (k + 1) (a - ch_ T k) (by omega) (by show a - ch_ T k + (sm k (fun k => ch_ T k) + ch_ T k) < _; omega) (by omega)
      have e : nI a - nI (ch_ T k) = nI (a - ch_ T k) := pk_sub (by omega)
      have hnn : ¬ nI (a - ch_ T k) < nI 0 := by rw [nI_ltI (by omega) (by decide)]; omega
      refine ⟨r, ?_, ?_⟩
      · refine (sX6_draw_44 ..).trans ?_
        simp (disch := omega) only [nI_ltI, nI_eq, nI_add, nI_clamp, ib_n, pk_mul, q_and, q_or, q_dn, q_shl, q_shlm, q_p1, if_true, if_false, ↓reduceIte, Option.bind_some, bI_0, bI_1, bI_01, b_or, Nat.not_lt_zero, Nat.zero_add, Bool.false_eq_true, Bool.true_eq_false, or_false, or_true, true_or, false_or, hsel, hT.1.2.2.2, (hT.2.2.2.2 k hk').2.2.2.2.1, e]
        rw [if_pos hk']
        exact r1
      · refine (sX7_draw_34 ..).trans ?_
        simp (disch := omega) only [nI_ltI, nI_eq, nI_add, nI_clamp, ib_n, pk_mul, q_and, q_or, q_dn, q_shl, q_shlm, q_p1, if_true, if_false, ↓reduceIte, Option.bind_some, bI_0, bI_1, bI_01, b_or, Nat.not_lt_zero, Nat.zero_add, Bool.false_eq_true, Bool.true_eq_false, or_false, or_true, true_or, false_or, (mT.2.2.2.2 k hk').2.2.2.2, e]
        rw [if_neg hlt]
        exact r2
theorem dr_c0 (x : Int32) {O : Mem_} {T : Td_} {w r : Nat} {res : Option Rs_} (hsel : sel (O 6 0 0 1) = w) (hT : CT (O 4 w) T) (wT : WT T) (h0 : ¬ chc T (2 ^ nK T - 1) = 0) (hr : dr (x * nI 1103515245 + nI 12345) % chc T (2 ^ nK T - 1) = r) (h : ex (39 + 1) 101 44 [some (vr 6 0 0), none, none, some (vi (nI r)), some (vi (nI 0))] [] O = res) : ex 40 101 0 [some (vr 6 0 0), some (vi x)] [] O = res := by
  have h6 := wT.2.2.2.1
  have h64 : 2 ^ nK T ≤ 2 ^ 6 := Nat.pow_le_pow_right (by decide) h6
  have hall := chc_le wT (2 ^ nK T - 1)
  refine (sX6_draw_0 39 O x).trans ?_
  rw [dr_c, hsel, m_allKinds 38 hT wT]
  simp only [Option.bind_some]
  rw [m_chances 37 (n := w) (K := 2 ^ nK T - 1) (by omega) hT wT]
  simp only [Option.bind_some]
  have hd := dr_lt (x * nI 1103515245 + nI 12345)
  have hz0 : ¬ nI (chc T (2 ^ nK T - 1)) = nI 0 := by rw [nI_eq (by omega) (by decide)]; exact h0
  rw [if_pos (nI_lt (by omega) (by omega)), if_neg hz0, pk_rem (by omega) (by omega) (by omega), hr]
  exact h
theorem dr_m0 (x : Int32) {O : Mem_} {T : Td_} {r : Nat} {res : Option Rs_} (mT : MT (O 7 0) T) (wT : WT T) (h0 : ¬ chc T (2 ^ nK T - 1) = 0) (hr : dr (x * nI 1103515245 + nI 12345) % chc T (2 ^ nK T - 1) = r) (h : ex (39 + 1) 208 34 [some (vr 7 0 0), none, some (vi (nI r)), some (vi (nI 0))] [] O = res) : ex 40 208 0 [some (vr 7 0 0), some (vi x)] [] O = res := by
  have hall := chc_le wT (2 ^ nK T - 1)
  refine (sX7_draw_0 39 O x).trans ?_
  rw [dr_m, n_allChances 37 mT wT]
  simp only [Option.bind_some]
  rw [n_allChances 37 mT wT]
  simp only [Option.bind_some]
  have hd := dr_lt (x * nI 1103515245 + nI 12345)
  have hz0 : ¬ nI (chc T (2 ^ nK T - 1)) = nI 0 := by rw [nI_eq (by omega) (by decide)]; exact h0
  rw [if_neg hz0, if_neg hz0, pk_rem (by omega) (by omega) (by omega), hr]
  exact h
theorem q_draw (x : Int32) : Cal 101 208 [some (vi x)] := Cal.q fun O A hw hc hm => by
  obtain ⟨w, cw, c9, hT, hS, hI, hB, hM, hP, hF, hSh⟩ := hc
  have hsel := cw.sel
  obtain ⟨mT, mSc, mIm, mN, mP, mF, mSh, mt⟩ := hm
  have hw' := hw
  obtain ⟨wT, wS, wI, wP, wF, wSh, wt⟩ := hw
  have h8 := wT.1
  have h12 := wT.2.1
  have h4 := wT.2.2.1
  have h6 := wT.2.2.2.1
  have wMd : WMd A.1 (mds A.1 A.2.1.2.1 A.2.1.1) := mds_wf _ (by have := wS.1; omega)
  have kmC : ∀ k, k < nK A.1 → KM (O 0 0) k ((mds A.1 A.2.1.2.1 A.2.1.1).2 k) := fun k hk => hM.2.2 k hk (by rw [Nat.testBit_two_pow_sub_one, decide_eq_true hk])
  have kmN : ∀ k, k < nK A.1 → KN (O 7 0) (10 * k) ((mds A.1 A.2.1.2.1 A.2.1.1).2 k) := fun k hk => by have := mN.1 k hk; rwa [Nat.zero_add] at this
  have h64 : 2 ^ nK A.1 ≤ 2 ^ 6 := Nat.pow_le_pow_right (by decide) h6
  have hall := chc_le wT (2 ^ nK A.1 - 1)
  by_cases h0 : chc A.1 (2 ^ nK A.1 - 1) = 0
  · refine ⟨oI none, ?_, ?_⟩
    · refine (sX6_draw_0 39 O x).trans ?_
      rw [hsel, m_allKinds 38 hT wT]
      simp only [Option.bind_some]
      rw [m_chances 37 (n := w) (K := 2 ^ nK A.1 - 1) (by omega) hT wT]
      simp only [Option.bind_some]
      rw [if_neg (by rw [h0]; decide)]
    · refine (sX7_draw_0 39 O x).trans ?_
      rw [n_allChances 37 mT wT]
      simp only [Option.bind_some]
      rw [if_pos (by rw [h0])]
  · obtain ⟨r, hr⟩ : ∃ r, dr (x * nI 1103515245 + nI 12345) % chc A.1 (2 ^ nK A.1 - 1) = r := ⟨_, rfl⟩
    have hlt : r < chc A.1 (2 ^ nK A.1 - 1) := by rw [← hr]; exact Nat.mod_lt _ (by omega)
    obtain ⟨v, v1, v2⟩ := dr_key hsel hT mT wT (nK A.1) 0 r (by omega) (by rw [← all_sm]; exact hlt) (by omega)
    exact ⟨v, dr_c0 x hsel hT wT h0 hr v1, dr_m0 x mT wT h0 hr v2⟩
end
