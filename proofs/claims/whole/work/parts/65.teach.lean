/-! teaching. -/
section
theorem ten_cases (x : Int32) {N : Nat} (hN : N ≤ 5) : (∃ i, i < N ∧ x = nI (10 + i)) ∨ (inI x (nI 10) (nI (9 + N)) = false ∧ (x < nI 10 ∨ (¬ x < nI 10 ∧ ¬ x - nI 10 < nI N))) := by
  by_cases h : x < nI 10
  · right
    refine ⟨?_, Or.inl h⟩
    unfold inI
    rw [decide_eq_true h]
    rfl
  · have h0 : ¬ x < nI 0 := fun g => h (Int32.lt_trans g (by decide))
    obtain ⟨j, hj, rfl⟩ := nI_of h0
    have h10 : 10 ≤ j := by rw [nI_ltI hj (by decide)] at h; omega
    have e : nI j - nI 10 = nI (j - 10) := pk_sub h10
    by_cases g : j < 10 + N
    · left
      exact ⟨j - 10, by omega, by rw [Nat.add_sub_cancel' h10]⟩
    · right
      refine ⟨?_, Or.inr ⟨h, ?_⟩⟩
      · rw [inI_n hj (by decide) (by omega), decide_eq_false (show ¬ j ≤ 9 + N by omega), Bool.and_false]
      · rw [e]; exact nI_nlt (by omega) (by omega)
theorem ten_in {i N : Nat} (hi : i < N) (hN : N ≤ 5) : inI (nI (10 + i)) (nI 10) (nI (9 + N)) = true := by
  rw [inI_n (by omega) (by decide) (by omega), decide_eq_true (show 10 ≤ 10 + i by omega), decide_eq_true (show 10 + i ≤ 9 + N by omega)]
  rfl
theorem ten_no {x : Int32} {N : Nat} (h : inI x (nI 10) (nI (9 + N)) = false) (hN : N ≤ 5) : ∀ i, i < N → x ≠ nI (10 + i) := fun i hi e => by
  rw [e, ten_in hi hN] at h; cases h
theorem CM.sub {R : Nat → Nat → Int32} {T : Td_} {K sn : Nat} {M : Md_} (h : CM R T (2 ^ nK T - 1) sn M) : CM R T K sn M := ⟨h.1, h.2.1, fun k hk _ => h.2.2 k hk (by rw [Nat.testBit_two_pow_sub_one, decide_eq_true hk])⟩
/-- what teaching answers -/
def teA (F : Option (Nat × List Nat)) (i : Nat) : Int32 := match F with
  | some p => if i < p.1 then nI (p.2.getD i 0) else -1
  | none => -1
theorem q_teaching (x y z : Int32) : Cal 86 183 [some (vi x), some (vi y), some (vi z)] := Cal.of fun O A hw hc hm => by
  have hc' := hc
  have hm' := hm
  obtain ⟨w, cw, c9, hT, hS, hI, hB, hM, hP, hF, hSh⟩ := hc
  have hsel := cw.sel
  obtain ⟨mT, mSc, mIm, mN, mP, mF, mSh, mt⟩ := hm
  have hw' := hw
  obtain ⟨wT, wS, wI, wP, wF, wSh, wt⟩ := hw
  have h8 := wT.1
  have h12 := wT.2.1
  have h4 := wT.2.2.1
  have h6 := wT.2.2.2.1
  have wMd : WMd A.1 (mds A.1 A.2.1.2.1 A.2.1.1) := mds_wf _ (by have := wS.1; omega)
  have kmC : ∀ k, k < nK A.1 → KM (O 0 0) k ((mds A.1 A.2.1.2.1 A.2.1.1).2 k) := fun k hk => hM.2.2 k hk (by rw [Nat.testBit_two_pow_sub_one, decide_eq_true hk])
  have kmN : ∀ k, k < nK A.1 → KN (O 7 0) (10 * k) ((mds A.1 A.2.1.2.1 A.2.1.1).2 k) := fun k hk => by have := mN.1 k hk; rwa [Nat.zero_add] at this
  have h64 : 2 ^ nK A.1 ≤ 2 ^ 6 := Nat.pow_le_pow_right (by decide) h6
  by_cases hx : hsI x (2 ^ nK A.1) = true
  · have hx' := hx
    obtain ⟨K, hK, rfl⟩ := hsI_of (by omega) hx
    by_cases hy : hsI y (nS A.1) = true
    · have hy' := hy
      obtain ⟨s, hs, rfl⟩ := hsI_of (by omega) hy
      -- behind the tests
      obtain ⟨O1, e1, g1, r1⟩ := m_findRow (T := A.1) (w := w) (K := K) (s := s) (O := O) 27 (i := 0) (most := 5) (sn := A.2.1.1) (M := mds A.1 A.2.1.2.1 A.2.1.1) (by omega) hs hT wT (by decide) (by decide) hM.sub wMd (by have := wS.1; omega)
      have rc : ∀ c, c ≠ 0 → c ≠ 5 → O1 c = O c := g1.1
      have hm1 : MI (O1 7 0) A := by rw [rc 7 (by decide) (by decide)]; exact hm'
      have cci : CI O1 A := hc'.of (g1.2.1 0 (by decide)) (rc 1 (by decide) (by decide)) (rc 2 (by decide) (by decide)) (rc 3 (by decide) (by decide)) (rc 4 (by decide) (by decide)) (rc 6 (by decide) (by decide))
      obtain ⟨O2, e2, x2, m2⟩ := n_copies (O := O1) (T := A.1) 38 (b := 140) (a := 0) (by decide) (by decide) (by decide) wT hm1.2.2.2.1
      have hm2 : MT (O2 7 0) A.1 := MT.nx x2 hm1.1
      obtain ⟨O3, e3, x3, m3⟩ := n_fewest (T := A.1) (O := O2) 31 (K := K) (s := s) (most := 5) (M0 := mds A.1 A.2.1.2.1 A.2.1.1) (by omega) hs (by decide) wT wMd hm2 m2
      have hm3 : MI (O3 7 0) A := MI.of (O := O1) hw' hm1 fun p q z1 z2 _ _ => by
        rw [x3.2 p q (by omega) z2, x2.2 p q (by omega)]
      have hcl : ∀ c, c ≠ 7 → O3 c = O1 c := fun c z => funext fun n => (x3.1 c n (Or.inl z)).trans (x2.1 c n (Or.inl z))
      have cst : ∀ v, ex 40 86 48 [some (vr 6 0 0), some (vi (nI K)), some (vi (nI s)), some (vi z), some (vi v)] [] O = if z = nI 0 then some (oI ((fewest A.1 K s 5 (mds A.1 A.2.1.2.1 A.2.1.1)).map Prod.fst), O1) else if (fewest A.1 K s 5 (mds A.1 A.2.1.2.1 A.2.1.1)).isSome = false then some (-1, O1) else if v < O1 5 0 0 1 then if ib v 5 = true then some (O1 5 0 1 (Int32.toNatClampNeg v), O1) else none else some (-1, O1) := fun v => by
        refine (sX6_teaching_48 39 ..).trans ?_
        rw [hsel, e1]
        simp only [Option.bind_some]
        cases hq : fewest A.1 K s 5 (mds A.1 A.2.1.2.1 A.2.1.1) with
        | none => rfl
        | some p => rw [(r1 p.1 p.2 hq).1]; rfl
      have mst : ex 40 183 36 [some (vr 7 0 0), some (vi (nI K)), some (vi (nI s)), some (vi z)] [] O1 = if z = nI 0 then some (oI ((fewest A.1 K s 5 (mds A.1 A.2.1.2.1 A.2.1.1)).map Prod.fst), O3) else if z - nI 10 < oI ((fewest A.1 K s 5 (mds A.1 A.2.1.2.1 A.2.1.1)).map Prod.fst) then if ib (z - nI 10) 5 = true then some (O3 7 0 31 (Int32.toNatClampNeg (z - nI 10)), O3) else none else some (-1, O3) := by
        refine (sX7_teaching_36 39 ..).trans ?_
        rw [e2]
        simp only [Option.bind_some]
        rw [e3]
        rfl
      have c0 : ex 40 86 0 [some (vr 6 0 0), some (vi (nI K)), some (vi (nI s)), some (vi z)] [] O = if z = nI 0 then ex 40 86 48 [some (vr 6 0 0), some (vi (nI K)), some (vi (nI s)), some (vi z), some (vi (z - nI 10))] [] O else if z < nI 10 then some (-1, O) else if z - nI 10 < nI 5 then ex 40 86 48 [some (vr 6 0 0), some (vi (nI K)), some (vi (nI s)), some (vi z), some (vi (z - nI 10))] [] O else some (-1, O) := by
        refine (sX6_teaching_0 39 ..).trans ?_
        rw [hsel, m_areKinds _ _ hT wT, hx']
        simp only [Option.bind_some]
        rw [if_neg (by decide), hsel, m_hasSound _ _ hT, hy']
        simp only [Option.bind_some]
        rw [if_neg (by decide)]
      have m0 : ∀ O, MI (O 7 0) A → ex 40 183 0 [some (vr 7 0 0), some (vi (nI K)), some (vi (nI s)), some (vi z)] [] O = if z = nI 0 ∨ inI z (nI 10) (nI (9 + 5)) = true then ex 40 183 36 [some (vr 7 0 0), some (vi (nI K)), some (vi (nI s)), some (vi z)] [] O else some (-1, O) := fun O hm => by
        refine (sX7_teaching_0 39 ..).trans ?_
        rw [n_areKinds 37 _ hm.1 wT, hx']
        simp only [Option.bind_some]
        rw [if_neg (by decide), n_isSound 37 _ hm.1 wT, hy']
        simp only [Option.bind_some]
        rw [if_neg (by decide)]
        by_cases z0 : z = nI 0
        · rw [if_pos z0, if_pos (Or.inl z0)]
        · rw [if_neg z0, m_in _ _ z (nI 10) (nI (9 + 5)) (a := 10) (b := 14) (by decide) (by decide)]
          simp only [Option.bind_some]
          cases hq : inI z (nI 10) (nI (9 + 5)) with
          | true => rw [if_neg (show ¬ bI true = nI 0 by decide), if_pos (Or.inr rfl)]
          | false => rw [if_pos bI_f, if_neg (by simp [z0])]
      by_cases z0 : z = nI 0
      · rw [if_pos z0, cst, if_pos z0] at c0
        have := m0 O1 hm1
        rw [if_pos (Or.inl z0), mst, if_pos z0] at this
        exact ⟨_, A, O1, hw', c0, cci, rc 7 (by decide) (by decide), rc 8 (by decide) (by decide), O3, this, hm3, hcl⟩
      · rcases ten_cases z (N := 5) (by decide) with ⟨i, hi, rfl⟩ | ⟨h1, h2⟩
        · have e : nI (10 + i) - nI 10 = nI i := by rw [pk_sub (by omega), Nat.add_sub_cancel_left]
          have : ex 40 86 0 [some (vr 6 0 0), some (vi (nI K)), some (vi (nI s)), some (vi (nI (10 + i)))] [] O = some (teA (fewest A.1 K s 5 (mds A.1 A.2.1.2.1 A.2.1.1)) i, O1) := by
            rw [c0, if_neg z0, if_neg (nI_nlt (show 10 ≤ 10 + i by omega) (by omega)), e, if_pos (nI_lt hi (by decide)), cst, if_neg z0]
            cases hq : fewest A.1 K s 5 (mds A.1 A.2.1.2.1 A.2.1.1) with
            | none => rfl
            | some p =>
              obtain ⟨a1, a2, -⟩ := r1 p.1 p.2 hq
              have a3 := (fewest_le (n := p.1) (row := p.2) hq).1
              rw [if_neg (show ¬ (some p).isSome = false from fun h => by cases h), a1, if_pos (ib_n hi (by decide)), nI_clamp (by omega)]
              show _ = some (if i < p.1 then nI (p.2.getD i 0) else -1, O1)
              by_cases g : i < p.1
              · rw [if_pos (nI_lt g (by omega)), if_pos g, a2 i g]
              · rw [if_neg (nI_nlt (by omega) (by omega)), if_neg g]
          refine ⟨_, A, O1, hw', this, cci, rc 7 (by decide) (by decide), rc 8 (by decide) (by decide), O3, ?_, hm3, hcl⟩
          refine (m0 O1 hm1).trans ?_
          rw [if_pos (Or.inr (ten_in hi (by decide))), mst, if_neg z0, e]
          cases hq : fewest A.1 K s 5 (mds A.1 A.2.1.2.1 A.2.1.1) with
          | none =>
            have : ¬ nI i < oI (Option.map Prod.fst (none : Option (Nat × List Nat))) := fun h => nI_pos (by omega) (Int32.lt_trans h (by decide))
            rw [if_neg this]
            rfl
          | some p =>
            obtain ⟨a1, -⟩ := m3 p.1 p.2 hq
            obtain ⟨a3, a4⟩ := fewest_le (n := p.1) (row := p.2) hq
            have a5 := (dfs_some _ _ _ a4).1
            show (if nI i < nI p.1 then _ else _) = some (if i < p.1 then nI (p.2.getD i 0) else -1, O3)
            by_cases g : i < p.1
            · have := a1 i (by omega)
              rw [Nat.zero_add] at this
              rw [if_pos (nI_lt g (by omega)), if_pos g, if_pos (ib_n hi (by decide)), nI_clamp (by omega), this]
            · rw [if_neg (nI_nlt (by omega) (by omega)), if_neg g]
        · refine CalAt.q hw' hc' hm' (-1) ?_ ?_
          · show ex 40 86 0 [some (vr 6 0 0), some (vi (nI K)), some (vi (nI s)), some (vi z)] [] O = _
            rw [c0, if_neg z0]
            rcases h2 with h2 | ⟨h2, h3⟩
            · rw [if_pos h2]
            · rw [if_neg h2, if_neg h3]
          · refine (m0 O hm').trans ?_
            rw [if_neg (by rw [h1]; simp [z0])]
    · have hy := bool_ne hy
      refine CalAt.q hw' hc' hm' (-1) ?_ ?_
      · rw [sX6_teaching_0]
        simp (disch := omega) only [nI_ltI, nI_eq, nI_add, nI_clamp, ib_n, pk_mul, q_and, q_or, q_dn, q_shl, q_shlm, q_p1, if_true, if_false, ↓reduceIte, Option.bind_some, bI_0, bI_1, bI_01, b_or, Nat.not_lt_zero, Nat.zero_add, Bool.false_eq_true, Bool.true_eq_false, or_false, or_true, true_or, false_or, hsel, m_areKinds (h := hT) (hT := wT), m_hasSound (h := hT), hx', hy]
      · rw [sX7_teaching_0]
        simp (disch := omega) only [nI_ltI, nI_eq, nI_add, nI_clamp, ib_n, pk_mul, q_and, q_or, q_dn, q_shl, q_shlm, q_p1, if_true, if_false, ↓reduceIte, Option.bind_some, bI_0, bI_1, bI_01, b_or, Nat.not_lt_zero, Nat.zero_add, Bool.false_eq_true, Bool.true_eq_false, or_false, or_true, true_or, false_or, n_areKinds (h := mT) (hT := wT), n_isSound (h := mT) (hT := wT), hx', hy]
  · have hx := bool_ne hx
    refine CalAt.q hw' hc' hm' (-1) ?_ ?_
    · rw [sX6_teaching_0]
      simp (disch := omega) only [nI_ltI, nI_eq, nI_add, nI_clamp, ib_n, pk_mul, q_and, q_or, q_dn, q_shl, q_shlm, q_p1, if_true, if_false, ↓reduceIte, Option.bind_some, bI_0, bI_1, bI_01, b_or, Nat.not_lt_zero, Nat.zero_add, Bool.false_eq_true, Bool.true_eq_false, or_false, or_true, true_or, false_or, hsel, m_areKinds (h := hT) (hT := wT), hx]
    · rw [sX7_teaching_0]
      simp (disch := omega) only [nI_ltI, nI_eq, nI_add, nI_clamp, ib_n, pk_mul, q_and, q_or, q_dn, q_shl, q_shlm, q_p1, if_true, if_false, ↓reduceIte, Option.bind_some, bI_0, bI_1, bI_01, b_or, Nat.not_lt_zero, Nat.zero_add, Bool.false_eq_true, Bool.true_eq_false, or_false, or_true, true_or, false_or, n_areKinds (h := mT) (hT := wT), hx]
end
