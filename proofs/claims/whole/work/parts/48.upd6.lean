/-! SHEETS: sheet, lay. -/
section
theorem CI.sheets {O O' : Mem_} {A : A_} (sh : Nat → Option (Nat × Nat × (Nat → Int32))) (h : CI O A) (e : ∀ c, c ≠ 2 → O' c = O c) (hP : CSh (O' 2 0) sh) : CI O' (A.1, A.2.1, A.2.2.1, A.2.2.2.1, A.2.2.2.2.1, sh, A.2.2.2.2.2.2) := by
  obtain ⟨w, cw, c9, hT, hS, hI, hB, hM, hT2, hF, -⟩ := h
  exact ⟨w, by rw [e 6 (by decide)]; exact cw, by rw [e 6 (by decide)]; exact c9, by rw [e 4 (by decide)]; exact hT, by rw [e 1 (by decide)]; exact hS, by rw [e 1 (by decide)]; exact hI, by rw [e 1 (by decide)]; exact hB, by rw [e 0 (by decide)]; exact hM, by rw [e 3 (by decide)]; exact hT2, by rw [e 3 (by decide)]; exact hF, hP⟩
theorem MI.sheets {O O' : Mem_} {A : A_} (sh : Nat → Option (Nat × Nat × (Nat → Int32))) (h : MI (O 7 0) A) (e : ∀ p q, p ≠ 42 → p ≠ 43 → p ≠ 44 → O' 7 0 p q = O 7 0 p q) (hP : MSh (O' 7 0) sh) : MI (O' 7 0) (A.1, A.2.1, A.2.2.1, A.2.2.2.1, A.2.2.2.2.1, sh, A.2.2.2.2.2.2) := by
  obtain ⟨h1, h2, h3, h4, h5, h6, h7, h8⟩ := h
  exact ⟨h1.lo fun p q a b => e p q (by omega) (by omega) (by omega), h2.eq fun p q a b => e p q (by omega) (by omega) (by omega), fun i hi => (h3 i hi).of fun p q a b => e p q (by omega) (by omega) (by omega), h4.eq fun q => e _ _ (by decide) (by decide) (by decide), h5.of (e _ _ (by decide) (by decide) (by decide)) (fun q => e _ _ (by decide) (by decide) (by decide)), (e _ _ (by decide) (by decide) (by decide)).trans h6, hP, (e _ _ (by decide) (by decide) (by decide)).trans h8⟩
theorem aty_sh {k : Nat} (hk : k < 4) : (aty 2 (4 + k)).beq 0 = true := by
  rcases (by omega : k = 0 ∨ k = 1 ∨ k = 2 ∨ k = 3) with rfl | rfl | rfl | rfl <;> rfl
theorem aln_sh {k : Nat} (hk : k < 4) : aln 2 (4 + k) = 40 := by
  rcases (by omega : k = 0 ∨ k = 1 ∨ k = 2 ∨ k = 3) with rfl | rfl | rfl | rfl <;> rfl
theorem m_renew (d : Nat) {O : Mem_} {k l n : Nat} (hk : k < 4) (hn : n ≤ 40) : ∃ O', ex (d + 1) 15 0 [some (vr 2 0 0), some (vi (nI k)), some (vi (nI l)), some (vi (nI n))] [] O = some (nI 0, O') ∧ Ro 2 0 O O' ∧ O' 2 0 1 k = nI n ∧ O' 2 0 2 k = nI l ∧ (∀ i, i < 40 → O' 2 0 (4 + k) i = nI 0) ∧ ∀ p q, ¬ ((p = 1 ∨ p = 2) ∧ q = k) → p ≠ 4 + k → O' 2 0 p q = O 2 0 p q := by
  rw [sX2_renew_0]
  simp (disch := omega) only [nI_ltI, nI_eq, nI_add, nI_clamp, ib_n, pk_mul, q_and, q_or, q_dn, q_shl, q_shlm, q_p1, if_true, if_false, ↓reduceIte, Option.bind_some, bI_0, bI_1, bI_01, b_or, Nat.not_lt_zero, Nat.zero_add, Bool.false_eq_true, Bool.true_eq_false, or_false, or_true, true_or, false_or]
  rw [if_pos (by omega), if_neg (by omega)]
  refine Exists.elim (lp_i (fun i (O : Mem_) => ex (d + 1) 15 37 [some (vr 2 0 0), some (vi (nI k)), none, none, some (vi (nI i))] [] O) (fun i O' => Ro 2 0 O O' ∧ O' 2 0 1 k = nI n ∧ O' 2 0 2 k = nI l ∧ (∀ q, q < i → O' 2 0 (4 + k) q = nI 0) ∧ ∀ p q, ¬ ((p = 1 ∨ p = 2) ∧ q = k) → p ≠ 4 + k → O' 2 0 p q = O 2 0 p q) 40 ?_ (up (up O 2 0 2 k (nI l)) 2 0 1 k (nI n)) ⟨Ro.rfl.up.up, up_eq .., by rw [up_ne (by omega), up_eq], fun q hq => by omega, fun p q a b => by rw [up_ne (by omega), up_ne (by omega)]⟩) ?_
  · intro i O' hi ⟨h1, h2, h3, h4, h5⟩
    refine ⟨up O' 2 0 (4 + k) i (nI 0), ?_, h1.up, ?_, ?_, fun q hq => ?_, fun p q a b => ?_⟩
    · refine (sX2_renew_37 ..).trans ?_
      simp (disch := omega) only [nI_ltI, nI_eq, nI_add, nI_clamp, ib_n, pk_mul, q_and, q_or, q_dn, q_shl, q_shlm, q_p1, if_true, if_false, ↓reduceIte, Option.bind_some, bI_0, bI_1, bI_01, b_or, Nat.not_lt_zero, Nat.zero_add, Bool.false_eq_true, Bool.true_eq_false, or_false, or_true, true_or, false_or, hi, aty_sh hk, aln_sh hk, cond_true]
    · rw [up_ne (by omega)]; exact h2
    · rw [up_ne (by omega)]; exact h3
    · by_cases e : q = i
      · subst e; rw [up_eq]
      · rw [up_ne (by omega)]; exact h4 q (by omega)
    · rw [up_ne (by omega)]; exact h5 p q a b
  · rintro O' ⟨e, h1, h2, h3, h4, h5⟩
    refine ⟨O', e.trans ?_, h1, h2, h3, h4, h5⟩
    refine (sX2_renew_37 ..).trans ?_
    simp (disch := omega) only [nI_ltI, nI_eq, nI_add, nI_clamp, ib_n, pk_mul, q_and, q_or, q_dn, q_shl, q_shlm, q_p1, if_true, if_false, ↓reduceIte, Option.bind_some, bI_0, bI_1, bI_01, b_or, Nat.not_lt_zero, Nat.zero_add, Bool.false_eq_true, Bool.true_eq_false, or_false, or_true, true_or, false_or, Nat.lt_irrefl]
theorem n_sheet40 (d : Nat) {O : Mem_} {k : Nat} (hk : k < 4) : ∃ O', ex (d + 1) 212 40 [some (vr 7 0 0), some (vi (nI k)), none, none, some (vi (nI 0))] [] O = some (nI 1, O') ∧ Ro 7 0 O O' ∧ (∀ i, i < 40 → O' 7 0 44 (40 * k + i) = nI 0) ∧ ∀ p q, ¬ (p = 44 ∧ 40 * k ≤ q ∧ q < 40 * k + 40) → O' 7 0 p q = O 7 0 p q := by
  refine Exists.elim (lp_i (fun i (O : Mem_) => ex (d + 1) 212 40 [some (vr 7 0 0), some (vi (nI k)), none, none, some (vi (nI i))] [] O) (fun i O' => Ro 7 0 O O' ∧ (∀ q, q < i → O' 7 0 44 (40 * k + q) = nI 0) ∧ ∀ p q, ¬ (p = 44 ∧ 40 * k ≤ q ∧ q < 40 * k + 40) → O' 7 0 p q = O 7 0 p q) 40 ?_ O ⟨Ro.rfl, fun q hq => by omega, fun _ _ _ => rfl⟩) ?_
  · intro i O' hi ⟨h1, h2, h3⟩
    refine ⟨up O' 7 0 44 (40 * k + i) (nI 0), ?_, h1.up, fun q hq => ?_, fun p q a => ?_⟩
    · refine (sX7_sheet_40 ..).trans ?_
      simp (disch := omega) only [nI_ltI, nI_eq, nI_add, nI_clamp, ib_n, pk_mul, q_and, q_or, q_dn, q_shl, q_shlm, q_p1, if_true, if_false, ↓reduceIte, Option.bind_some, bI_0, bI_1, bI_01, b_or, Nat.not_lt_zero, Nat.zero_add, Bool.false_eq_true, Bool.true_eq_false, or_false, or_true, true_or, false_or, hi]
    · by_cases e : q = i
      · subst e; rw [up_eq]
      · rw [up_ne (by omega)]; exact h2 q (by omega)
    · rw [up_ne (by omega)]; exact h3 p q a
  · rintro O' ⟨e, h1, h2, h3⟩
    refine ⟨O', e.trans ?_, h1, h2, h3⟩
    refine (sX7_sheet_40 ..).trans ?_
    simp (disch := omega) only [nI_ltI, nI_eq, nI_add, nI_clamp, ib_n, pk_mul, q_and, q_or, q_dn, q_shl, q_shlm, q_p1, if_true, if_false, ↓reduceIte, Option.bind_some, bI_0, bI_1, bI_01, b_or, Nat.not_lt_zero, Nat.zero_add, Bool.false_eq_true, Bool.true_eq_false, or_false, or_true, true_or, false_or, Nat.lt_irrefl]
theorem n_isSheet (d : Nat) (O : Mem_) (x y : Int32) : ex (d + 2) 211 0 [some (vi x), some (vi y)] [] O = some (bI (hsI x 4 && hsI y 3), O) := by
  rw [sX7_isSheet_0, m_in _ _ x (nI 0) (nI 3) (a := 0) (b := 3) (by decide) (by decide), inI_c x (by decide)]
  simp (disch := omega) only [nI_ltI, nI_eq, nI_add, nI_clamp, ib_n, pk_mul, q_and, q_or, q_dn, q_shl, q_shlm, q_p1, if_true, if_false, ↓reduceIte, Option.bind_some, bI_0, bI_1, bI_01, b_or, Nat.not_lt_zero, Nat.zero_add, Bool.false_eq_true, Bool.true_eq_false, or_false, or_true, true_or, false_or]
  rw [m_in _ _ y (nI 0) (nI 2) (a := 0) (b := 2) (by decide) (by decide), inI_c y (by decide)]
  simp (disch := omega) only [nI_ltI, nI_eq, nI_add, nI_clamp, ib_n, pk_mul, q_and, q_or, q_dn, q_shl, q_shlm, q_p1, if_true, if_false, ↓reduceIte, Option.bind_some, bI_0, bI_1, bI_01, b_or, Nat.not_lt_zero, Nat.zero_add, Bool.false_eq_true, Bool.true_eq_false, or_false, or_true, true_or, false_or]
  cases hsI x 4 <;> cases hsI y 3 <;> simp [bI]
theorem hs_split {α : Type} {x : Int32} {n : Nat} (a b : α) : (if x < nI 0 then a else (if x < nI n then b else a)) = if hsI x n = true then b else a := by
  unfold hsI
  by_cases z : x < nI 0
  · rw [if_pos z, decide_eq_true z]; rfl
  · rw [if_neg z, decide_eq_false z]
    by_cases z2 : x < nI n
    · rw [if_pos z2, decide_eq_true z2]; rfl
    · rw [if_neg z2, decide_eq_false z2]; rfl
theorem q_sheet (x y z : Int32) : Cal 104 212 [some (vi x), some (vi y), some (vi z)] := Cal.of fun O A hw hc hm => by
  have hc' := hc
  have hm' := hm
  obtain ⟨w, cw, c9, hT, hS, hI, hB, hM, hP, hF, hSh⟩ := hc
  have hsel := cw.sel
  obtain ⟨mT, mSc, mIm, mN, mP, mF, mSh, mt⟩ := hm
  have hw' := hw
  obtain ⟨wT, wS, wI, wP, wF, wSh, wt⟩ := hw
  have h8 := wT.1
  have h12 := wT.2.1
  have h4 := wT.2.2.1
  have h6 := wT.2.2.2.1
  have wMd : WMd A.1 (mds A.1 A.2.1.2.1 A.2.1.1) := mds_wf _ (by have := wS.1; omega)
  have kmC : ∀ k, k < nK A.1 → KM (O 0 0) k ((mds A.1 A.2.1.2.1 A.2.1.1).2 k) := fun k hk => hM.2.2 k hk (by rw [Nat.testBit_two_pow_sub_one, decide_eq_true hk])
  have kmN : ∀ k, k < nK A.1 → KN (O 7 0) (10 * k) ((mds A.1 A.2.1.2.1 A.2.1.1).2 k) := fun k hk => by have := mN.1 k hk; rwa [Nat.zero_add] at this
  have cl := sX6_sheet_0 39 O x y z
  simp only [hs_split] at cl
  have ml : ∀ O, ex 40 212 0 [some (vr 7 0 0), some (vi x), some (vi y), some (vi z)] [] O = _ := fun O => sX7_sheet_0 39 O x y z
  by_cases hx : (hsI x 4 && hsI y 3) = true
  · have hx2 := hx
    rw [Bool.and_eq_true] at hx
    rw [if_pos hx.1, if_pos hx.2] at cl
    by_cases z1 : nI 40 < z
    · refine CalAt.q hw' hc' hm' (-1) (cl.trans (if_pos z1)) ((ml O).trans ?_)
      rw [n_isSheet, hx2]
      simp (disch := omega) only [nI_ltI, nI_eq, nI_add, nI_clamp, ib_n, pk_mul, q_and, q_or, q_dn, q_shl, q_shlm, q_p1, if_true, if_false, ↓reduceIte, Option.bind_some, bI_0, bI_1, bI_01, b_or, Nat.not_lt_zero, Nat.zero_add, Bool.false_eq_true, Bool.true_eq_false, or_false, or_true, true_or, false_or]
      rw [if_pos z1]
    · rw [if_neg z1] at cl
      by_cases z2 : z < nI 0
      · refine CalAt.q hw' hc' hm' (-14) (cl.trans (if_pos z2)) ((ml O).trans ?_)
        rw [n_isSheet, hx2]
        simp (disch := omega) only [nI_ltI, nI_eq, nI_add, nI_clamp, ib_n, pk_mul, q_and, q_or, q_dn, q_shl, q_shlm, q_p1, if_true, if_false, ↓reduceIte, Option.bind_some, bI_0, bI_1, bI_01, b_or, Nat.not_lt_zero, Nat.zero_add, Bool.false_eq_true, Bool.true_eq_false, or_false, or_true, true_or, false_or]
        rw [if_neg z1, if_pos z2]
      · rw [if_neg z2] at cl
        obtain ⟨k, hk, rfl⟩ := hsI_of (by decide) hx.1
        obtain ⟨l, hl, rfl⟩ := hsI_of (by decide) hx.2
        obtain ⟨n, hn, rfl⟩ := nI_of z2
        rw [nI_ltI (by decide) hn] at z1
        obtain ⟨O1, e1, r1, a1, a2, a3, a4⟩ := m_renew 38 (O := O) (k := k) (l := l) (n := n) hk (by omega)
        have rr : ∀ c, c ≠ 2 → O1 c = O c := fun c z => funext fun q => r1 c q (Or.inl z)
        obtain ⟨O2, e2, r2, b1, b2⟩ := n_sheet40 39 (O := up (up O1 7 0 42 k (nI l)) 7 0 43 k (nI n)) (k := k) hk
        refine ⟨nI 1, (A.1, A.2.1, A.2.2.1, A.2.2.2.1, A.2.2.2.2.1, (fun q => if q = k then some (l, n, fun _ => nI 0) else A.2.2.2.2.2.1 q), A.2.2.2.2.2.2), O1, ⟨wT, wS, wI, wP, wF, fun q u e => ?_, wt⟩, ?_, hc'.sheets _ rr fun q hq => ?_, rr 7 (by decide), rr 8 (by decide), O2, ?_, MI.sheets (O := O) _ hm' (fun p q a b c => ?_) fun q hq => ?_, fun c z => ?_⟩
        · have e : (if q = k then some (l, n, fun _ => nI 0) else A.2.2.2.2.2.1 q) = some u := e
          split at e
          · cases e; exact ⟨hl, by show n ≤ 40; omega⟩
          · exact wSh q u e
        · refine cl.trans ?_
          simp (disch := omega) only [nI_ltI, nI_eq, nI_add, nI_clamp, ib_n, pk_mul, q_and, q_or, q_dn, q_shl, q_shlm, q_p1, if_true, if_false, ↓reduceIte, Option.bind_some, bI_0, bI_1, bI_01, b_or, Nat.not_lt_zero, Nat.zero_add, Bool.false_eq_true, Bool.true_eq_false, or_false, or_true, true_or, false_or, e1]
        · by_cases e : q = k
          · subst e
            rw [if_pos rfl]
            exact ⟨a1, a2, a3⟩
          · rw [if_neg e]
            have := hSh q hq
            cases hs : A.2.2.2.2.2.1 q with
            | none => rw [hs] at this; dsimp only at this ⊢; rw [a4 _ _ (by omega) (by omega)]; exact this
            | some u =>
              rw [hs] at this
              dsimp only at this ⊢
              rw [a4 1 q (by omega) (by omega), a4 2 q (by omega) (by omega)]
              exact ⟨this.1, this.2.1, fun i hi => by rw [a4 _ _ (by omega) (by omega)]; exact this.2.2 i hi⟩
        · refine (ml O1).trans ?_
          rw [n_isSheet, hx2]
          simp (disch := omega) only [nI_ltI, nI_eq, nI_add, nI_clamp, ib_n, pk_mul, q_and, q_or, q_dn, q_shl, q_shlm, q_p1, if_true, if_false, ↓reduceIte, Option.bind_some, bI_0, bI_1, bI_01, b_or, Nat.not_lt_zero, Nat.zero_add, Bool.false_eq_true, Bool.true_eq_false, or_false, or_true, true_or, false_or]
          rw [if_neg z1]
          exact e2
        · rw [b2 _ _ (by omega)]; simp (disch := omega) only [up_ne]; rw [rr 7 (by decide)]
        · by_cases e : q = k
          · subst e
            rw [if_pos rfl]
            refine ⟨?_, ?_, b1⟩
            · rw [b2 _ _ (by omega)]; simp (disch := omega) only [up_ne, up_eq]
            · rw [b2 _ _ (by omega)]; simp (disch := omega) only [up_ne, up_eq]
          · rw [if_neg e]
            have := mSh q hq
            cases hs : A.2.2.2.2.2.1 q with
            | none => rw [hs] at this; dsimp only at this ⊢; rw [b2 _ _ (by omega)]; simp (disch := omega) only [up_ne]; rw [rr 7 (by decide)]; exact this
            | some u =>
              rw [hs] at this
              dsimp only at this ⊢
              refine ⟨?_, ?_, fun i hi => ?_⟩
              · rw [b2 _ _ (by omega)]; simp (disch := omega) only [up_ne]; rw [rr 7 (by decide)]; exact this.1
              · rw [b2 _ _ (by omega)]; simp (disch := omega) only [up_ne]; rw [rr 7 (by decide)]; exact this.2.1
              · rw [b2 _ _ (by omega)]; simp (disch := omega) only [up_ne]; rw [rr 7 (by decide)]; exact this.2.2 i hi
        · funext q
          rw [r2 c q (Or.inl z), up_row (Or.inl z), up_row (Or.inl z)]
  · have hx2 := bool_ne hx
    refine CalAt.q hw' hc' hm' (-1) (cl.trans ?_) ((ml O).trans ?_)
    · rcases Bool.and_eq_false_iff.mp hx2 with h | h
      · rw [if_neg (by rw [h]; decide)]
      · rw [if_neg (c := hsI y 3 = true) (by rw [h]; decide), ite_self]
    · rw [n_isSheet, hx2]
      simp (disch := omega) only [nI_ltI, nI_eq, nI_add, nI_clamp, ib_n, pk_mul, q_and, q_or, q_dn, q_shl, q_shlm, q_p1, if_true, if_false, ↓reduceIte, Option.bind_some, bI_0, bI_1, bI_01, b_or, Nat.not_lt_zero, Nat.zero_add, Bool.false_eq_true, Bool.true_eq_false, or_false, or_true, true_or, false_or]
theorem q_lay (x y z : Int32) : Cal 105 213 [some (vi x), some (vi y), some (vi z)] := Cal.of fun O A hw hc hm => by
  have hc' := hc
  have hm' := hm
  obtain ⟨w, cw, c9, hT, hS, hI, hB, hM, hP, hF, hSh⟩ := hc
  have hsel := cw.sel
  obtain ⟨mT, mSc, mIm, mN, mP, mF, mSh, mt⟩ := hm
  have hw' := hw
  obtain ⟨wT, wS, wI, wP, wF, wSh, wt⟩ := hw
  have h8 := wT.1
  have h12 := wT.2.1
  have h4 := wT.2.2.1
  have h6 := wT.2.2.2.1
  have wMd : WMd A.1 (mds A.1 A.2.1.2.1 A.2.1.1) := mds_wf _ (by have := wS.1; omega)
  have kmC : ∀ k, k < nK A.1 → KM (O 0 0) k ((mds A.1 A.2.1.2.1 A.2.1.1).2 k) := fun k hk => hM.2.2 k hk (by rw [Nat.testBit_two_pow_sub_one, decide_eq_true hk])
  have kmN : ∀ k, k < nK A.1 → KN (O 7 0) (10 * k) ((mds A.1 A.2.1.2.1 A.2.1.1).2 k) := fun k hk => by have := mN.1 k hk; rwa [Nat.zero_add] at this
  have cl := sX6_lay_0 39 O x y z
  rw [hs_split] at cl
  have ml : ∀ O, ex 40 213 0 [some (vr 7 0 0), some (vi x), some (vi y), some (vi z)] [] O = _ := fun O => sX7_lay_0 39 O x y z
  by_cases hx : hsI x 4 = true
  · rw [if_pos hx] at cl
    have hx2 : (hsI x 4 && hsI (nI 0) 3) = true := by rw [hx]; rfl
    obtain ⟨k, hk, rfl⟩ := hsI_of (by decide) hx
    have cs := hSh k hk
    have ms := mSh k hk
    have wr := sX2_write_0 38 O (nI k) y z
    rw [if_neg (by rw [nI_ltI (by omega) (by decide)]; omega), if_pos (by rw [nI_ltI (by omega) (by decide)]; exact hk)] at wr
    cases hs : A.2.2.2.2.2.1 k with
    | none =>
      rw [hs] at cs ms
      dsimp only at cs ms
      refine CalAt.q hw' hc' hm' (-11) (cl.trans ?_) ((ml O).trans ?_)
      · rw [wr]
        simp (disch := omega) only [nI_ltI, nI_eq, nI_add, nI_clamp, ib_n, pk_mul, q_and, q_or, q_dn, q_shl, q_shlm, q_p1, if_true, if_false, ↓reduceIte, Option.bind_some, bI_0, bI_1, bI_01, b_or, Nat.not_lt_zero, Nat.zero_add, Bool.false_eq_true, Bool.true_eq_false, or_false, or_true, true_or, false_or, cs]
        rw [if_neg (by decide), show (-10 : Int32) - nI 1 = -11 by decide]
      · rw [n_isSheet, hx2]
        simp (disch := omega) only [nI_ltI, nI_eq, nI_add, nI_clamp, ib_n, pk_mul, q_and, q_or, q_dn, q_shl, q_shlm, q_p1, if_true, if_false, ↓reduceIte, Option.bind_some, bI_0, bI_1, bI_01, b_or, Nat.not_lt_zero, Nat.zero_add, Bool.false_eq_true, Bool.true_eq_false, or_false, or_true, true_or, false_or, ms]
    | some u =>
      rw [hs] at cs ms
      dsimp only at cs ms
      have wu := wSh k u hs
      have hne := oI_none (j := u.2.1) (by omega)
      have hne2 := oI_none (j := u.1) (by omega)
      by_cases hy : hsI y u.2.1 = true
      · have hy2 := hy
        obtain ⟨i, hi, rfl⟩ := hsI_of (by omega) hy
        have hw2 : ∀ v : Int32, v = (if u.1 = 0 then (Int32.toInt8 z).toInt32 else if u.1 = 1 then (Int32.toInt16 z).toInt32 else z) → CalAt 105 213 [some (vi (nI k)), some (vi (nI i)), some (vi z)] O A := by
          intro v hv
          have e1 : ex 39 16 0 [some (vr 2 0 0), some (vi (nI k)), some (vi (nI i)), some (vi z)] [] O = some (nI 0, up O 2 0 (4 + k) i v) := by
            refine wr.trans ?_
            simp (disch := omega) only [nI_ltI, nI_eq, nI_add, nI_clamp, ib_n, pk_mul, q_and, q_or, q_dn, q_shl, q_shlm, q_p1, if_true, if_false, ↓reduceIte, Option.bind_some, bI_0, bI_1, bI_01, b_or, Nat.not_lt_zero, Nat.zero_add, Bool.false_eq_true, Bool.true_eq_false, or_false, or_true, true_or, false_or, cs.1, cs.2.1, hne, hi, aty_sh hk, aln_sh hk, cond_true]
            rw [if_pos (by omega), hv]
            by_cases l0 : u.1 = 0
            · simp [l0]
            · by_cases l1 : u.1 = 1
              · simp [l1]
              · simp [l0, l1]
          have rr : ∀ c, c ≠ 2 → up O 2 0 (4 + k) i v c = O c := fun c z => funext fun q => up_row (Or.inl z)
          refine ⟨nI 1, (A.1, A.2.1, A.2.2.1, A.2.2.2.1, A.2.2.2.2.1, (fun q => if q = k then some (u.1, u.2.1, upF u.2.2 i v) else A.2.2.2.2.2.1 q), A.2.2.2.2.2.2), up O 2 0 (4 + k) i v, ⟨wT, wS, wI, wP, wF, fun q u' e => ?_, wt⟩, ?_, hc'.sheets _ rr fun q hq => ?_, rr 7 (by decide), rr 8 (by decide), up (up O 2 0 (4 + k) i v) 7 0 44 (40 * k + i) v, ?_, MI.sheets (O := O) _ hm' (fun p q a b c => ?_) fun q hq => ?_, fun c z => funext fun q => up_row (Or.inl z)⟩
          · have e : (if q = k then some (u.1, u.2.1, upF u.2.2 i v) else A.2.2.2.2.2.1 q) = some u' := e
            split at e
            · cases e; exact wu
            · exact wSh q u' e
          · refine cl.trans ?_
            rw [e1]
            simp (disch := omega) only [nI_ltI, nI_eq, nI_add, nI_clamp, ib_n, pk_mul, q_and, q_or, q_dn, q_shl, q_shlm, q_p1, if_true, if_false, ↓reduceIte, Option.bind_some, bI_0, bI_1, bI_01, b_or, Nat.not_lt_zero, Nat.zero_add, Bool.false_eq_true, Bool.true_eq_false, or_false, or_true, true_or, false_or]
          · by_cases e : q = k
            · subst e
              rw [if_pos rfl]
              dsimp only
              refine ⟨?_, ?_, fun i' hi' => ?_⟩
              · rw [up_ne (by omega)]; exact cs.1
              · rw [up_ne (by omega)]; exact cs.2.1
              · simp only [upF]
                by_cases e : i' = i
                · subst e; rw [up_eq, if_pos rfl]
                · rw [up_ne (by omega), if_neg e]; exact cs.2.2 i' hi'
            · rw [if_neg e]
              have := hSh q hq
              cases hs : A.2.2.2.2.2.1 q with
              | none => rw [hs] at this; dsimp only at this ⊢; rw [up_ne (by omega)]; exact this
              | some u' =>
                rw [hs] at this
                dsimp only at this ⊢
                rw [up_ne (by omega), up_ne (by omega)]
                exact ⟨this.1, this.2.1, fun i hi => by rw [up_ne (by omega)]; exact this.2.2 i hi⟩
          · refine (ml _).trans ?_
            rw [n_isSheet, hx2]
            simp (disch := omega) only [nI_ltI, nI_eq, nI_add, nI_clamp, ib_n, pk_mul, q_and, q_or, q_dn, q_shl, q_shlm, q_p1, if_true, if_false, ↓reduceIte, Option.bind_some, bI_0, bI_1, bI_01, b_or, Nat.not_lt_zero, Nat.zero_add, Bool.false_eq_true, Bool.true_eq_false, or_false, or_true, true_or, false_or, rr 7 (by decide), ms.1, ms.2.1, hne2, m_in _ _ (nI i) (nI 0) (nI u.2.1 - nI 1) (a := 0) (by decide) rfl, inI_h, hy2]
            rw [hv]
            by_cases l0 : u.1 = 0
            · simp [l0]
            · by_cases l1 : u.1 = 1
              · simp [l1]
              · simp [l0, l1]
          · rw [up_ne (by omega), up_row (by decide)]
          · by_cases e : q = k
            · subst e
              rw [if_pos rfl]
              dsimp only
              refine ⟨?_, ?_, fun i' hi' => ?_⟩
              · rw [up_ne (by omega), up_row (by decide)]; exact ms.1
              · rw [up_ne (by omega), up_row (by decide)]; exact ms.2.1
              · simp only [upF]
                by_cases e : i' = i
                · subst e; rw [up_eq, if_pos rfl]
                · rw [up_ne (by omega), up_row (by decide), if_neg e]; exact ms.2.2 i' hi'
            · rw [if_neg e]
              have := mSh q hq
              cases hs : A.2.2.2.2.2.1 q with
              | none => rw [hs] at this; dsimp only at this ⊢; rw [up_ne (by omega), up_row (by decide)]; exact this
              | some u' =>
                rw [hs] at this
                dsimp only at this ⊢
                refine ⟨?_, ?_, fun i hi => ?_⟩
                · rw [up_ne (by omega), up_row (by decide)]; exact this.1
                · rw [up_ne (by omega), up_row (by decide)]; exact this.2.1
                · rw [up_ne (by omega), up_row (by decide)]; exact this.2.2 i hi
        exact hw2 _ rfl
      · have hy := bool_ne hy
        refine CalAt.q hw' hc' hm' (-12) (cl.trans ?_) ((ml O).trans ?_)
        · rw [wr]
          simp (disch := omega) only [nI_ltI, nI_eq, nI_add, nI_clamp, ib_n, pk_mul, q_and, q_or, q_dn, q_shl, q_shlm, q_p1, if_true, if_false, ↓reduceIte, Option.bind_some, bI_0, bI_1, bI_01, b_or, Nat.not_lt_zero, Nat.zero_add, Bool.false_eq_true, Bool.true_eq_false, or_false, or_true, true_or, false_or, cs.1, hne]
          unfold hsI at hy
          by_cases z1 : y < nI 0
          · rw [if_pos z1]
            simp (disch := omega) only [nI_ltI, nI_eq, nI_add, nI_clamp, ib_n, pk_mul, q_and, q_or, q_dn, q_shl, q_shlm, q_p1, if_true, if_false, ↓reduceIte, Option.bind_some, bI_0, bI_1, bI_01, b_or, Nat.not_lt_zero, Nat.zero_add, Bool.false_eq_true, Bool.true_eq_false, or_false, or_true, true_or, false_or]
            rw [if_neg (by decide), show (-10 : Int32) - nI 2 = -12 by decide]
          · rw [decide_eq_false z1] at hy
            have z2 : ¬ y < nI u.2.1 := fun q => by rw [decide_eq_true q] at hy; cases hy
            rw [if_neg z1, if_neg z2]
            simp (disch := omega) only [nI_ltI, nI_eq, nI_add, nI_clamp, ib_n, pk_mul, q_and, q_or, q_dn, q_shl, q_shlm, q_p1, if_true, if_false, ↓reduceIte, Option.bind_some, bI_0, bI_1, bI_01, b_or, Nat.not_lt_zero, Nat.zero_add, Bool.false_eq_true, Bool.true_eq_false, or_false, or_true, true_or, false_or]
            rw [if_neg (by decide), show (-10 : Int32) - nI 2 = -12 by decide]
        · rw [n_isSheet, hx2]
          simp (disch := omega) only [nI_ltI, nI_eq, nI_add, nI_clamp, ib_n, pk_mul, q_and, q_or, q_dn, q_shl, q_shlm, q_p1, if_true, if_false, ↓reduceIte, Option.bind_some, bI_0, bI_1, bI_01, b_or, Nat.not_lt_zero, Nat.zero_add, Bool.false_eq_true, Bool.true_eq_false, or_false, or_true, true_or, false_or, ms.1, ms.2.1, hne2, m_in _ _ y (nI 0) (nI u.2.1 - nI 1) (a := 0) (by decide) rfl, inI_h, hy]
  · have hx := bool_ne hx
    have hx2 : (hsI x 4 && hsI (nI 0) 3) = false := by rw [hx]; rfl
    refine CalAt.q hw' hc' hm' (-1) (cl.trans ?_) ((ml O).trans ?_)
    · rw [if_neg (by rw [hx]; decide)]
    · rw [n_isSheet, hx2]
      simp (disch := omega) only [nI_ltI, nI_eq, nI_add, nI_clamp, ib_n, pk_mul, q_and, q_or, q_dn, q_shl, q_shlm, q_p1, if_true, if_false, ↓reduceIte, Option.bind_some, bI_0, bI_1, bI_01, b_or, Nat.not_lt_zero, Nat.zero_add, Bool.false_eq_true, Bool.true_eq_false, or_false, or_true, true_or, false_or]
end
