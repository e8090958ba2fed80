/-! THE TAPE'S CALLS, said. -/
section
variable {O : Mem_} {A : A_}
theorem a_end (hw : WA A) (hc : CI O A) (d : Nat) {j : Nat} (hj : j ≤ A.2.2.2.1.1) : ∃ O1, ex (d + 1) 68 0 [some (vr 6 0 0), some (vi (nI j))] [] O = some (nI A.2.2.2.1.1, O1) ∧ WA (A.1, A.2.1, A.2.2.1, (j, A.2.2.2.1.2), A.2.2.2.2) ∧ CI O1 (A.1, A.2.1, A.2.2.1, (j, A.2.2.2.1.2), A.2.2.2.2) ∧ ∀ c, c ≠ 3 → O1 c = O c := by
  have hc' := hc
  obtain ⟨w, cw, c9, hT, hS, hI, hB, hM, hP, hF, hSh⟩ := hc
  have hsel := cw.sel
  have hw' := hw
  obtain ⟨wT, wS, wI, wP, wF, wSh, wt⟩ := hw
  have h8 := wT.1
  have h12 := wT.2.1
  have h4 := wT.2.2.1
  have h6 := wT.2.2.2.1
  have wMd : WMd A.1 (mds A.1 A.2.1.2.1 A.2.1.1) := mds_wf _ (by have := wS.1; omega)
  have kmC : ∀ k, k < nK A.1 → KM (O 0 0) k ((mds A.1 A.2.1.2.1 A.2.1.1).2 k) := fun k hk => hM.2.2 k hk (by rw [Nat.testBit_two_pow_sub_one, decide_eq_true hk])
  have hl := wP.1
  refine ⟨up O 3 0 0 1 (nI j), ?_, ⟨wT, wS, wI, ⟨Nat.le_trans hj hl, wP.2⟩, wF, wSh, wt⟩, hc'.tape (j, A.2.2.2.1.2) (fun c z => funext fun n => up_row (Or.inl z)) (up_ne (by decide)) ⟨up_eq .., fun q hq => ?_⟩, fun c z => funext fun n => up_row (Or.inl z)⟩
  · rw [sX6_end_0]
    simp (disch := omega) only [nI_ltI, nI_eq, nI_add, nI_clamp, ib_n, pk_mul, q_and, q_or, q_dn, q_shl, q_shlm, q_p1, if_true, if_false, ↓reduceIte, Option.bind_some, bI_0, bI_1, bI_01, b_or, Nat.not_lt_zero, Nat.zero_add, Bool.false_eq_true, Bool.true_eq_false, or_false, or_true, true_or, false_or, hP.1]
    rw [if_neg (by omega)]
  · have hq : q < j := hq
    rw [up_ne (by omega)]; exact hP.2 q (by omega)
theorem a_feed (hw : WA A) (hc : CI O A) (d : Nat) (v : Int64) (hf : ¬ 392 < A.2.2.2.1.1) : ∃ O1, ex (d + 2) 67 0 [some (vr 6 0 0), some (vl v), none] [] O = some (nI (A.2.2.2.1.1 + 8), O1) ∧ WA (A.1, A.2.1, A.2.2.1, tpf A.2.2.2.1 v 8, A.2.2.2.2) ∧ CI O1 (A.1, A.2.1, A.2.2.1, tpf A.2.2.2.1 v 8, A.2.2.2.2) ∧ ∀ c, c ≠ 3 → O1 c = O c := by
  have hc' := hc
  obtain ⟨w, cw, c9, hT, hS, hI, hB, hM, hP, hF, hSh⟩ := hc
  have hsel := cw.sel
  have hw' := hw
  obtain ⟨wT, wS, wI, wP, wF, wSh, wt⟩ := hw
  have h8 := wT.1
  have h12 := wT.2.1
  have h4 := wT.2.2.1
  have h6 := wT.2.2.2.1
  have wMd : WMd A.1 (mds A.1 A.2.1.2.1 A.2.1.1) := mds_wf _ (by have := wS.1; omega)
  have kmC : ∀ k, k < nK A.1 → KM (O 0 0) k ((mds A.1 A.2.1.2.1 A.2.1.1).2 k) := fun k hk => hM.2.2 k hk (by rw [Nat.testBit_two_pow_sub_one, decide_eq_true hk])
  have hl := wP.1
  generalize hl0 : A.2.2.2.1.1 = l at hl hf
  have hP1 : O 3 0 0 1 = nI l := by rw [← hl0]; exact hP.1
  have wP' : (tpf A.2.2.2.1 v 8).1 ≤ 400 ∧ ∀ j, (tpf A.2.2.2.1 v 8).2 j < 256 := by
    refine ⟨by simp only [tpf]; omega, fun j => ?_⟩
    simp only [tpf]
    split
    · exact byt_lt _ _
    · exact wP.2 j
  have lc := lp_i (fun k (O : Mem_) => ex (d + 2) 67 19 [some (vr 6 0 0), some (vl v), none, some (vi (nI (8 - k) + (-1)))] [] O) (fun k O' => (∀ c, c ≠ 3 → O' c = O c) ∧ O' 3 0 0 2 = O 3 0 0 2 ∧ CTp (O' 3 0) (tpf A.2.2.2.1 v k)) 8 (fun k O' hk hp => by
    obtain ⟨h1, h2, h3, h5⟩ := hp
    have h3 : O' 3 0 0 1 = nI (l + k) := by rw [h3, ← hl0]; rfl
    have e7 : nI (8 - k) + (-1) = nI (7 - k) := by rw [show 8 - k = (7 - k) + 1 by omega, pk_m1]
    refine ⟨up (up O' 3 0 1 (l + k) (nI (byt v (7 - k)))) 3 0 0 1 (nI (l + k + 1)), ?_, fun c z => ?_, ?_, ?_, fun j hj => ?_⟩
    · rw [e7, show 8 - (k + 1) = 7 - k by omega]
      refine (sX6_feed_19 ..).trans ?_
      simp (disch := omega) only [nI_ltI, nI_eq, nI_add, nI_clamp, ib_n, pk_mul, q_and, q_or, q_dn, q_shl, q_shlm, q_p1, if_true, if_false, ↓reduceIte, Option.bind_some, bI_0, bI_1, bI_01, b_or, Nat.not_lt_zero, Nat.zero_add, Bool.false_eq_true, Bool.true_eq_false, or_false, or_true, true_or, false_or, pk_mul]
      rw [byt_c v (by omega), m_put d h3 (by omega)]
      simp (disch := omega) only [nI_ltI, nI_eq, nI_add, nI_clamp, ib_n, pk_mul, q_and, q_or, q_dn, q_shl, q_shlm, q_p1, if_true, if_false, ↓reduceIte, Option.bind_some, bI_0, bI_1, bI_01, b_or, Nat.not_lt_zero, Nat.zero_add, Bool.false_eq_true, Bool.true_eq_false, or_false, or_true, true_or, false_or]
    · funext n; rw [up_row (Or.inl z), up_row (Or.inl z), h1 c z]
    · rw [up_ne (by omega), up_ne (by omega)]; exact h2
    · rw [up_eq]; simp only [tpf]; rw [hl0]; rfl
    · have hj : j < A.2.2.2.1.1 + (k + 1) := hj
      by_cases e : j = l + k
      · subst e
        rw [up_ne (by omega), up_eq]
        simp only [tpf]
        rw [if_pos (by omega), hl0, Nat.add_sub_cancel_left]
      · rw [up_ne (by omega), up_ne (by omega)]
        exact h5 j (by simp only [tpf]; omega)) O ⟨fun _ _ => rfl, rfl, by rw [hP1]; simp only [tpf]; rw [hl0]; rfl, fun j hj => by
          have hj : j < A.2.2.2.1.1 + 0 := hj
          simp only [tpf]
          rw [if_neg (by omega)]; exact hP.2 j hj⟩
  obtain ⟨O1, e1, r1, f1, t1⟩ := lc
  have t11 : O1 3 0 0 1 = nI (l + 8) := by rw [t1.1]; simp only [tpf]; rw [hl0]
  refine ⟨O1, ?_, ⟨wT, wS, wI, wP', wF, wSh, wt⟩, hc'.tape (tpf A.2.2.2.1 v 8) r1 f1 t1, r1⟩
  rw [sX6_feed_0]
  simp (disch := omega) only [nI_ltI, nI_eq, nI_add, nI_clamp, ib_n, pk_mul, q_and, q_or, q_dn, q_shl, q_shlm, q_p1, if_true, if_false, ↓reduceIte, Option.bind_some, bI_0, bI_1, bI_01, b_or, Nat.not_lt_zero, Nat.zero_add, Bool.false_eq_true, Bool.true_eq_false, or_false, or_true, true_or, false_or, hP1]
  rw [if_neg hf]
  refine Eq.trans ?_ (e1.trans ?_)
  · rw [show 8 - 0 = 7 + 1 by decide, pk_m1]
  · refine (sX6_feed_19 ..).trans ?_
    rw [if_pos (by decide), t11]
end
