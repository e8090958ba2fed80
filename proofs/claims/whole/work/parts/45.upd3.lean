/-! CALLS THAT CHANGE: heard, keep, back. -/
section
theorem q_heard (x y z : Int32) : Cal 92 197 [some (vi x), some (vi y), some (vi z)] := Cal.of fun O A hw hc hm => by
  have hc' := hc
  have hm' := hm
  obtain ⟨w, cw, c9, hT, hS, hI, hB, hM, hP, hF, hSh⟩ := hc
  have hsel := cw.sel
  obtain ⟨mT, mSc, mIm, mN, mP, mF, mSh, mt⟩ := hm
  have hw' := hw
  obtain ⟨wT, wS, wI, wP, wF, wSh, wt⟩ := hw
  have h8 := wT.1
  have h12 := wT.2.1
  have h4 := wT.2.2.1
  have h6 := wT.2.2.2.1
  have wMd : WMd A.1 (mds A.1 A.2.1.2.1 A.2.1.1) := mds_wf _ (by have := wS.1; omega)
  have kmC : ∀ k, k < nK A.1 → KM (O 0 0) k ((mds A.1 A.2.1.2.1 A.2.1.1).2 k) := fun k hk => hM.2.2 k hk (by rw [Nat.testBit_two_pow_sub_one, decide_eq_true hk])
  have kmN : ∀ k, k < nK A.1 → KN (O 7 0) (10 * k) ((mds A.1 A.2.1.2.1 A.2.1.1).2 k) := fun k hk => by have := mN.1 k hk; rwa [Nat.zero_add] at this
  by_cases hx : hsI x (nS A.1) = true
  · have hx' := hx
    obtain ⟨s, hs, rfl⟩ := hsI_of (by omega) hx
    by_cases hy : hsI y (nT A.1) = true
    · have hy' := hy
      obtain ⟨t, ht, rfl⟩ := hsI_of (by omega) hy
      have main : ∀ a : Option Nat, (∀ j, a = some j → j < 2) → z = oI a → CalAt 92 197 [some (vi (nI s)), some (vi (nI t)), some (vi z)] O A := by
        intro a ha hz
        subst hz
        have wc : WSc A.1 (A.2.1.1, A.2.1.2.1, A.2.1.2.2.1 &&& who A.1 (mds A.1 A.2.1.2.1 A.2.1.1) s t a, A.2.1.2.2.2) := ⟨wS.1, wS.2.1, Nat.lt_of_le_of_lt Nat.and_le_left wS.2.2.1, wS.2.2.2⟩
        have e41 : ∀ d, ex (d + 4) 92 41 [some (vr 6 0 0), some (vi (nI s)), some (vi (nI t)), some (vi (oI a))] [] O = some (nI (A.2.1.2.2.1 &&& who A.1 (mds A.1 A.2.1.2.1 A.2.1.1) s t a), up O 1 0 0 4 (nI (A.2.1.2.2.1 &&& who A.1 (mds A.1 A.2.1.2.1 A.2.1.1) s t a))) := fun d => by
          rw [sX6_heard_41]
          simp (disch := omega) only [nI_ltI, nI_eq, nI_add, nI_clamp, ib_n, pk_mul, q_and, q_or, q_dn, q_shl, q_shlm, q_p1, if_true, if_false, ↓reduceIte, Option.bind_some, bI_0, bI_1, bI_01, b_or, Nat.not_lt_zero, Nat.zero_add, Bool.false_eq_true, Bool.true_eq_false, or_false, or_true, true_or, false_or, hsel, m_kindsThatAnswer d (i := 0) (n := w) (a := a) (t := t) (M := mds A.1 A.2.1.2.1 A.2.1.1) ha hs (by omega) hT wT kmC wMd.2, hS.2.2.1, up_eq]
        have f34 : ∀ d (O : Mem_), MI (O 7 0) A → ex (d + 3) 197 34 [some (vr 7 0 0), some (vi (nI s)), some (vi (nI t)), some (vi (oI a))] [] O = some (nI (A.2.1.2.2.1 &&& who A.1 (mds A.1 A.2.1.2.1 A.2.1.1) s t a), up O 7 0 0 33 (nI (A.2.1.2.2.1 &&& who A.1 (mds A.1 A.2.1.2.1 A.2.1.1) s t a))) := fun d O hm => by
          rw [sX7_heard_34]
          simp (disch := omega) only [nI_ltI, nI_eq, nI_add, nI_clamp, ib_n, pk_mul, q_and, q_or, q_dn, q_shl, q_shlm, q_p1, if_true, if_false, ↓reduceIte, Option.bind_some, bI_0, bI_1, bI_01, b_or, Nat.not_lt_zero, Nat.zero_add, Bool.false_eq_true, Bool.true_eq_false, or_false, or_true, true_or, false_or, n_whoSay d (a := a) (s := s) (t := t) (M := mds A.1 A.2.1.2.1 A.2.1.1) ha hs (by omega) hm.1 wT hm.2.2.2.1 wMd, hm.2.1.2.2.1, up_eq]
        have hz3 : oI a = oI none ∨ oI a = nI 0 ∨ oI a = nI 1 := by
          cases a with
          | none => exact Or.inl rfl
          | some j =>
            have := ha j rfl
            rcases (by omega : j = 0 ∨ j = 1) with rfl | rfl
            · exact Or.inr (Or.inl rfl)
            · exact Or.inr (Or.inr rfl)
        generalize hl : A.2.1.2.2.1 &&& who A.1 (mds A.1 A.2.1.2.1 A.2.1.1) s t a = l at wc e41 f34
        have hm1 : MI ((up O 1 0 0 4 (nI l)) 7 0) A := by rw [up_row (Or.inl (by decide))]; exact hm'
        refine ⟨nI l, _, up O 1 0 0 4 (nI l), hw'.scene wc, ?_, hc'.lt l A.2.1.2.2.2 (fun c z => funext fun n => up_row (Or.inl z)) (fun i z => up_row (Or.inr z)) ?_ ?_, funext fun n => up_row (Or.inl (by decide)), funext fun n => up_row (Or.inl (by decide)), up (up O 1 0 0 4 (nI l)) 7 0 0 33 (nI l), ?_, MI.lt (O := O) l A.2.1.2.2.2 hm' (fun p q a b d => ?_) ?_, fun c z => funext fun n => up_row (Or.inl z)⟩
        · rw [sX6_heard_0]
          simp (disch := omega) only [nI_ltI, nI_eq, nI_add, nI_clamp, ib_n, pk_mul, q_and, q_or, q_dn, q_shl, q_shlm, q_p1, if_true, if_false, ↓reduceIte, Option.bind_some, bI_0, bI_1, bI_01, b_or, Nat.not_lt_zero, Nat.zero_add, Bool.false_eq_true, Bool.true_eq_false, or_false, or_true, true_or, false_or, hsel, m_hasSound (h := hT), m_hasThing (h := hT), hx', hy']
          have := e41 36
          rcases hz3 with e | e | e
          · rw [this, e]; simp
          · rw [this, e]; simp
          · rw [this, e]; simp
        · refine ⟨?_, fun j hj => ?_, up_eq .., ?_, fun j hj => ?_⟩
          · simp (disch := omega) only [up_ne]; exact hS.1
          · simp (disch := omega) only [up_ne]; exact hS.2.1 j hj
          · simp (disch := omega) only [up_ne]; exact hS.2.2.2.1
          · simp (disch := omega) only [up_ne]; exact hS.2.2.2.2 j hj
        · refine ⟨fun j hj => ?_, fun j hj => ?_⟩
          · simp (disch := omega) only [up_ne]; exact (hB 0 (by decide)).1 j hj
          · simp (disch := omega) only [up_ne]; exact (hB 0 (by decide)).2 j hj
        · rw [sX7_heard_0]
          simp (disch := omega) only [nI_ltI, nI_eq, nI_add, nI_clamp, ib_n, pk_mul, q_and, q_or, q_dn, q_shl, q_shlm, q_p1, if_true, if_false, ↓reduceIte, Option.bind_some, bI_0, bI_1, bI_01, b_or, Nat.not_lt_zero, Nat.zero_add, Bool.false_eq_true, Bool.true_eq_false, or_false, or_true, true_or, false_or, n_isSound (h := hm1.1) (hT := wT), n_isThing (h := hm1.1) (hT := wT), hx', hy']
          have := f34 37 _ hm1
          by_cases e : oI a = oI none
          · rw [if_pos e]; exact this
          · rw [if_neg e]
            have hin : inI (oI a) (nI 0) (nI 1) = true := by
              rcases hz3 with q | q | q
              · exact absurd q e
              · rw [q]; decide
              · rw [q]; decide
            rw [m_in _ _ _ (nI 0) (nI 1) (a := 0) (b := 1) (by decide) (by decide), hin]
            simp (disch := omega) only [nI_ltI, nI_eq, nI_add, nI_clamp, ib_n, pk_mul, q_and, q_or, q_dn, q_shl, q_shlm, q_p1, if_true, if_false, ↓reduceIte, Option.bind_some, bI_0, bI_1, bI_01, b_or, Nat.not_lt_zero, Nat.zero_add, Bool.false_eq_true, Bool.true_eq_false, or_false, or_true, true_or, false_or]
            exact this
        · rw [up_ne (by omega), up_row (by decide)]
        · refine ⟨?_, fun j hj => ?_, up_eq .., ?_, fun j hj => ?_⟩
          · simp (disch := omega) only [up_ne, up_row]; exact mSc.1
          · simp (disch := omega) only [up_ne, up_row]; exact mSc.2.1 j hj
          · simp (disch := omega) only [up_ne, up_row]; exact mSc.2.2.2.1
          · simp (disch := omega) only [up_ne, up_row]; exact mSc.2.2.2.2 j hj
      by_cases z0 : z = nI 0
      · exact main (some 0) (fun j e => by cases e; decide) z0
      · by_cases z1 : z = nI 1
        · exact main (some 1) (fun j e => by cases e; decide) z1
        · by_cases z2 : z = oI none
          · exact main none (fun j e => by cases e) z2
          · refine CalAt.q hw' hc' hm' (-1) ?_ ?_
            · rw [sX6_heard_0]
              simp (disch := omega) only [nI_ltI, nI_eq, nI_add, nI_clamp, ib_n, pk_mul, q_and, q_or, q_dn, q_shl, q_shlm, q_p1, if_true, if_false, ↓reduceIte, Option.bind_some, bI_0, bI_1, bI_01, b_or, Nat.not_lt_zero, Nat.zero_add, Bool.false_eq_true, Bool.true_eq_false, or_false, or_true, true_or, false_or, hsel, m_hasSound (h := hT), m_hasThing (h := hT), hx', hy', z0, z1, z2]
            · have hin : inI z (nI 0) (nI 1) = false := by
                rw [inI_c z (b := 1) (by decide)]
                refine bool_ne fun e => ?_
                obtain ⟨j, hj, rfl⟩ := hsI_of (by decide) e
                rcases (by omega : j = 0 ∨ j = 1) with rfl | rfl
                · exact z0 rfl
                · exact z1 rfl
              rw [sX7_heard_0]
              simp (disch := omega) only [nI_ltI, nI_eq, nI_add, nI_clamp, ib_n, pk_mul, q_and, q_or, q_dn, q_shl, q_shlm, q_p1, if_true, if_false, ↓reduceIte, Option.bind_some, bI_0, bI_1, bI_01, b_or, Nat.not_lt_zero, Nat.zero_add, Bool.false_eq_true, Bool.true_eq_false, or_false, or_true, true_or, false_or, n_isSound (h := mT) (hT := wT), n_isThing (h := mT) (hT := wT), hx', hy', z2, m_in _ _ z (nI 0) (nI 1) (a := 0) (b := 1) (by decide) (by decide), hin]
    · have hy := bool_ne hy
      refine CalAt.q hw' hc' hm' (-1) ?_ ?_
      · rw [sX6_heard_0]
        simp (disch := omega) only [nI_ltI, nI_eq, nI_add, nI_clamp, ib_n, pk_mul, q_and, q_or, q_dn, q_shl, q_shlm, q_p1, if_true, if_false, ↓reduceIte, Option.bind_some, bI_0, bI_1, bI_01, b_or, Nat.not_lt_zero, Nat.zero_add, Bool.false_eq_true, Bool.true_eq_false, or_false, or_true, true_or, false_or, hsel, m_hasSound (h := hT), m_hasThing (h := hT), hx', hy]
      · rw [sX7_heard_0]
        simp (disch := omega) only [nI_ltI, nI_eq, nI_add, nI_clamp, ib_n, pk_mul, q_and, q_or, q_dn, q_shl, q_shlm, q_p1, if_true, if_false, ↓reduceIte, Option.bind_some, bI_0, bI_1, bI_01, b_or, Nat.not_lt_zero, Nat.zero_add, Bool.false_eq_true, Bool.true_eq_false, or_false, or_true, true_or, false_or, n_isSound (h := mT) (hT := wT), n_isThing (h := mT) (hT := wT), hx', hy]
  · have hx := bool_ne hx
    refine CalAt.q hw' hc' hm' (-1) ?_ ?_
    · rw [sX6_heard_0]
      simp (disch := omega) only [nI_ltI, nI_eq, nI_add, nI_clamp, ib_n, pk_mul, q_and, q_or, q_dn, q_shl, q_shlm, q_p1, if_true, if_false, ↓reduceIte, Option.bind_some, bI_0, bI_1, bI_01, b_or, Nat.not_lt_zero, Nat.zero_add, Bool.false_eq_true, Bool.true_eq_false, or_false, or_true, true_or, false_or, hsel, m_hasSound (h := hT), hx]
    · rw [sX7_heard_0]
      simp (disch := omega) only [nI_ltI, nI_eq, nI_add, nI_clamp, ib_n, pk_mul, q_and, q_or, q_dn, q_shl, q_shlm, q_p1, if_true, if_false, ↓reduceIte, Option.bind_some, bI_0, bI_1, bI_01, b_or, Nat.not_lt_zero, Nat.zero_add, Bool.false_eq_true, Bool.true_eq_false, or_false, or_true, true_or, false_or, n_isSound (h := mT) (hT := wT), hx]
theorem bok_of {O : Mem_} {c n p k : Nat} (h : ∀ j, j < k → O c n p j = nI 0 ∨ O c n p j = nI 1) : bok O c n p 0 k = true := by
  unfold bok
  rw [List.all_eq_true]
  intro j hj
  rw [Nat.zero_add]
  rcases h j (List.mem_range.mp hj) with e | e
  · rw [e]; rfl
  · rw [e]; rfl
/-- a row of truths of another scene, one by one -/
theorem m_sLoop4 (d : Nat) {O : Mem_} {i j : Nat} (hij : i ≠ j) (hB : CB (O 1 j)) : ∃ O', ex (d + 1) 14 71 [some (vr 1 i 0), some (vr 1 j 0), some (vi (nI 0))] [] O = ex (d + 1) 14 97 [some (vr 1 i 0), some (vr 1 j 0), some (vi (nI 0))] [] O' ∧ Ro 1 i O O' ∧ ∀ p q, O' 1 i p q = if p = 4 ∧ q < 24 then O 1 j 4 q else O 1 i p q := by
  refine Exists.elim (lp_i (fun k (O : Mem_) => ex (d + 1) 14 71 [some (vr 1 i 0), some (vr 1 j 0), some (vi (nI k))] [] O) (fun k O' => Ro 1 i O O' ∧ ∀ p q, O' 1 i p q = if p = 4 ∧ q < k then O 1 j 4 q else O 1 i p q) 24 ?_ O ⟨Ro.rfl, fun p q => by rw [if_neg (by omega)]⟩) ?_
  · intro k O' hk ⟨h1, h2⟩
    have hj : O' 1 j = O 1 j := h1 1 j (Or.inr (by omega))
    refine ⟨up O' 1 i 4 k (O 1 j 4 k), ?_, h1.up, fun p q => ?_⟩
    · refine (sX1_become_71 ..).trans ?_
      simp (disch := omega) only [nI_ltI, nI_eq, nI_add, nI_clamp, ib_n, pk_mul, q_and, q_or, q_dn, q_shl, q_shlm, q_p1, if_true, if_false, ↓reduceIte, Option.bind_some, bI_0, bI_1, bI_01, b_or, Nat.not_lt_zero, Nat.zero_add, Bool.false_eq_true, Bool.true_eq_false, or_false, or_true, true_or, false_or, hk, hj]
      rw [if_pos (hB.1 k hk)]
    · rw [up_self, h2]
      by_cases e : p = 4 ∧ q = k
      · rw [if_pos e, if_pos (by omega), e.2]
      · rw [if_neg e]
        by_cases e2 : p = 4 ∧ q < k
        · rw [if_pos e2, if_pos (by omega)]
        · rw [if_neg e2, if_neg (by omega)]
  · rintro O' ⟨e, h1, h2⟩
    refine ⟨O', e.trans ?_, h1, h2⟩
    refine (sX1_become_71 ..).trans ?_
    simp (disch := omega) only [nI_ltI, nI_eq, nI_add, nI_clamp, ib_n, pk_mul, q_and, q_or, q_dn, q_shl, q_shlm, q_p1, if_true, if_false, ↓reduceIte, Option.bind_some, bI_0, bI_1, bI_01, b_or, Nat.not_lt_zero, Nat.zero_add, Bool.false_eq_true, Bool.true_eq_false, or_false, or_true, true_or, false_or, Nat.lt_irrefl]
theorem m_sLoop8 (d : Nat) {O : Mem_} {i j : Nat} (hij : i ≠ j) (hB : CB (O 1 j)) : ∃ O', ex (d + 1) 14 97 [some (vr 1 i 0), some (vr 1 j 0), some (vi (nI 0))] [] O = some (nI 0, O') ∧ Ro 1 i O O' ∧ ∀ p q, O' 1 i p q = if p = 8 ∧ q < 12 then O 1 j 8 q else O 1 i p q := by
  refine Exists.elim (lp_i (fun k (O : Mem_) => ex (d + 1) 14 97 [some (vr 1 i 0), some (vr 1 j 0), some (vi (nI k))] [] O) (fun k O' => Ro 1 i O O' ∧ ∀ p q, O' 1 i p q = if p = 8 ∧ q < k then O 1 j 8 q else O 1 i p q) 12 ?_ O ⟨Ro.rfl, fun p q => by rw [if_neg (by omega)]⟩) ?_
  · intro k O' hk ⟨h1, h2⟩
    have hj : O' 1 j = O 1 j := h1 1 j (Or.inr (by omega))
    refine ⟨up O' 1 i 8 k (O 1 j 8 k), ?_, h1.up, fun p q => ?_⟩
    · refine (sX1_become_97 ..).trans ?_
      simp (disch := omega) only [nI_ltI, nI_eq, nI_add, nI_clamp, ib_n, pk_mul, q_and, q_or, q_dn, q_shl, q_shlm, q_p1, if_true, if_false, ↓reduceIte, Option.bind_some, bI_0, bI_1, bI_01, b_or, Nat.not_lt_zero, Nat.zero_add, Bool.false_eq_true, Bool.true_eq_false, or_false, or_true, true_or, false_or, hk, hj]
      rw [if_pos (hB.2 k hk)]
    · rw [up_self, h2]
      by_cases e : p = 8 ∧ q = k
      · rw [if_pos e, if_pos (by omega), e.2]
      · rw [if_neg e]
        by_cases e2 : p = 8 ∧ q < k
        · rw [if_pos e2, if_pos (by omega)]
        · rw [if_neg e2, if_neg (by omega)]
  · rintro O' ⟨e, h1, h2⟩
    refine ⟨O', e.trans ?_, h1, h2⟩
    refine (sX1_become_97 ..).trans ?_
    simp (disch := omega) only [nI_ltI, nI_eq, nI_add, nI_clamp, ib_n, pk_mul, q_and, q_or, q_dn, q_shl, q_shlm, q_p1, if_true, if_false, ↓reduceIte, Option.bind_some, bI_0, bI_1, bI_01, b_or, Nat.not_lt_zero, Nat.zero_add, Bool.false_eq_true, Bool.true_eq_false, or_false, or_true, true_or, false_or, Nat.lt_irrefl]
/-- a scene becomes another -/
theorem m_becomeS (d : Nat) {O : Mem_} {i j : Nat} {c : Sc_} (hij : i ≠ j) (wc : c.1 ≤ 24 ∧ c.2.2.2.1 ≤ 12) (hS : CS (O 1 j) c) (hB : CB (O 1 j)) : ∃ O', ex (d + 1) 14 0 [some (vr 1 i 0), some (vr 1 j 0)] [] O = some (nI 0, O') ∧ Ro 1 i O O' ∧ CS (O' 1 i) c ∧ CB (O' 1 i) ∧ O' 1 i 0 8 = O 1 i 0 8 := by
  have r : ∀ (O : Mem_) (p j' : Nat) (v : Int32), up O 1 i p j' v 1 j = O 1 j := fun O p j' v => up_row (by omega)
  have r2 : ∀ (O : Mem_) (p l : Nat), cpy O 1 j p 1 i p 0 0 l 1 j = O 1 j := fun O p l => cpy_row (by omega)
  rw [sX1_become_0]
  generalize hU : cpy _ 1 j 7 1 i 7 0 0 12 = U
  have hUj : U 1 j = O 1 j := by rw [← hU]; simp only [r, r2]
  have hUR : Ro 1 i O U := by rw [← hU]; exact (((((Ro.rfl.up).up).up).cpy).cpy).cpy
  have hUi : ∀ p q, U 1 i p q = if p = 7 ∧ q < 12 then O 1 j 7 q else if p = 3 ∧ q < 24 then O 1 j 3 q else if p = 2 ∧ q < 24 then O 1 j 2 q else if p = 0 ∧ q = 5 then O 1 j 0 5 else if p = 0 ∧ q = 4 then O 1 j 0 4 else if p = 0 ∧ q = 0 then O 1 j 0 0 else O 1 i p q := fun p q => by
    rw [← hU]; simp only [cpy_self, r, r2, up_self]
  obtain ⟨V, e1, hV, hVi⟩ := m_sLoop4 d hij (O := U) (by rw [hUj]; exact hB)
  have hVj : V 1 j = O 1 j := (hV 1 j (Or.inr (by omega))).trans hUj
  obtain ⟨W, e2, hW, hWi⟩ := m_sLoop8 d hij (O := V) (by rw [hVj]; exact hB)
  have hq : ∀ p q, W 1 i p q = if p = 8 ∧ q < 12 then O 1 j 8 q else if p = 4 ∧ q < 24 then O 1 j 4 q else if p = 7 ∧ q < 12 then O 1 j 7 q else if p = 3 ∧ q < 24 then O 1 j 3 q else if p = 2 ∧ q < 24 then O 1 j 2 q else if p = 0 ∧ q = 5 then O 1 j 0 5 else if p = 0 ∧ q = 4 then O 1 j 0 4 else if p = 0 ∧ q = 0 then O 1 j 0 0 else O 1 i p q := fun p q => by
    rw [hWi, hVi, hUi, hVj, hUj]
  refine ⟨W, e1.trans e2, (hUR.trans hV).trans hW, ?_, ?_, ?_⟩
  · refine ⟨?_, fun q hq' => ?_, ?_, ?_, fun q hq' => ?_⟩
    · rw [hq]; simp [hS.1]
    · have h24 : q < 24 := by omega
      have := hS.2.1 q hq'
      rw [hq, hq, hq]; simp [h24, this.1, this.2.1, this.2.2]
    · rw [hq]; simp [hS.2.2.1]
    · rw [hq]; simp [hS.2.2.2.1]
    · have h12 : q < 12 := by omega
      have := hS.2.2.2.2 q hq'
      rw [hq, hq]; simp [h12, this.1, this.2]
  · refine ⟨fun q hq' => ?_, fun q hq' => ?_⟩
    · rw [hq]; simp only [hq']; simpa using hB.1 q hq'
    · rw [hq]; simp only [hq']; simpa using hB.2 q hq'
  · rw [hq]; simp
end
