/-! THE LAW'S OWN MINDS: small methods. -/
section
/-- but for the law's minds nothing is changed -/
def Fr8 (O O' : Mem_) : Prop := (∀ c, c ≠ 7 → O' c = O c) ∧ ∀ p, p ≠ 8 → O' 7 0 p = O 7 0 p
theorem Fr8.rf {O : Mem_} : Fr8 O O := ⟨fun _ _ => rfl, fun _ _ => rfl⟩
theorem Fr8.trans {O O' O2 : Mem_} (h : Fr8 O O') (g : Fr8 O' O2) : Fr8 O O2 := ⟨fun c a => (g.1 c a).trans (h.1 c a), fun p a => (g.2 p a).trans (h.2 p a)⟩
theorem Fr8.u {O O' : Mem_} {j : Nat} {v : Int32} (h : Fr8 O O') : Fr8 O (up O' 7 0 8 j v) := ⟨fun c z => (funext fun q => up_row (Or.inl z)).trans (h.1 c z), fun p z => (funext fun q => up_ne (by omega)).trans (h.2 p z)⟩
theorem LA.of8 {T : Td_} {O O' : Mem_} (h : LA T (O 7 0)) (f : Fr8 O O') : LA T (O' 7 0) := by
  unfold LA Mn at h ⊢
  rw [f.2 1 (by decide), f.2 2 (by decide), f.2 3 (by decide), f.2 4 (by decide), f.2 5 (by decide)]
  exact h
/-- the showings -/
def SH (R : Nat → Nat → Int32) (f : Nat → Nat × Nat × Bool) (n : Nat) : Prop := ∀ j, j < n → R 7 (3 * j) = nI (f j).1 ∧ R 7 (3 * j + 1) = nI (f j).2.1 ∧ R 7 (3 * j + 2) = bI (f j).2.2
/-- a kind's mind -/
def KS (R : Nat → Nat → Int32) (k : Nat) (μ : Mi_) : Prop := (∀ s, s < 4 → R 8 (10 * k + s) = oI (μ.1 s) ∧ R 8 (10 * k + 4 + s) = nI (μ.2.1 s)) ∧ R 8 (10 * k + 8) = oI μ.2.2.1 ∧ R 8 (10 * k + 9) = oI μ.2.2.2
variable {T : Td_} {O : Mem_}
theorem asks_le (m : Nat) : asks T m ≤ 8 := cnt_le _ 8
theorem l_plainest (d : Nat) {b : Nat} (hT : WT T) (hB : LB T) (la : LA T (O 7 0)) (hb : b < 2 ^ 31) : ex (d + 2) 131 0 [some (vr 7 0 2), some (vr 7 0 5), some (vi (nI b))] [] O = some (oI (plainest T b), O) := by
  obtain ⟨b1, b2, b3, b4, b5, b6, b7, b8⟩ := hB
  have i1 : (nI 1).toNatClampNeg = 1 := by decide
  refine (sL_plainest_0 ..).trans ?_
  obtain ⟨⟨o, c⟩, e, hp, -⟩ := lp_i (fun k (z : Option Nat × Nat) => ex (d + 2) 131 10 [some (vr 7 0 2), some (vr 7 0 5), some (vi (nI b)), some (vi (oI z.1)), some (vi (nI z.2)), some (vi (nI k))] [] O) (fun k z => isPl T b k z.1 ∧ z.2 = match z.1 with | none => 99 | some x => asks T x) (nM T) (fun m z hm hz => by
    obtain ⟨o, c⟩ := z
    obtain ⟨hp, hcv⟩ := hz
    dsimp only at hp hcv
    obtain ⟨r1, r2, r3⟩ := la.2.2.1 m hm
    obtain ⟨q1, q2, q3⟩ := hT.2.2.2.2.2.1 m
    have ha := asks_le (T := T) m
    have hc9 : c ≤ 99 := by
      rw [hcv]
      cases o with
      | none => exact Nat.le_refl _
      | some x => have := asks_le (T := T) x; dsimp only; omega
    have st := sL_plainest_10 (d + 1) O (nI b) (oI o) (nI c) (nI m)
    rw [if_pos (by decide), i1, la.1.2.1, if_pos (by rw [nI_ltI (by omega) (by omega)]; exact hm), pk_mul, if_pos (ib_n (by omega) (by decide)), nI_clamp (by omega), r1, l_ones d O (by omega)] at st
    simp only [Option.bind_some] at st
    rw [nI_add, if_pos (ib_n (by omega) (by decide)), nI_clamp (by omega), r2, l_ones d O (by omega)] at st
    simp only [Option.bind_some] at st
    rw [nI_add, nI_add, asks_ones hT] at st
    by_cases hbit : b.testBit m = true
    · rw [if_pos ((q_bit b m hb (by omega)).mpr hbit)] at st
      by_cases hlt : asks T m < c
      · rw [if_pos (by rw [nI_ltI (by omega) (by omega)]; exact hlt)] at st
        refine ⟨(some m, asks T m), st, ⟨Nat.lt_succ_self m, hbit, fun y hy hby => ?_⟩, rfl⟩
        by_cases e : y = m
        · exact Or.inr ⟨by rw [e], by omega⟩
        · refine Or.inl ?_
          cases o with
          | none => have := hp y (by omega); rw [hby] at this; cases this
          | some x =>
            have := hp.2.2 y (by omega) hby
            dsimp only at hcv
            omega
      · rw [if_neg (by rw [nI_ltI (by omega) (by omega)]; exact hlt)] at st
        refine ⟨(o, c), st, ?_, hcv⟩
        cases o with
        | none => dsimp only at hcv; omega
        | some x =>
          dsimp only at hcv
          obtain ⟨h1, h2, h3⟩ := hp
          refine ⟨by omega, h2, fun y hy hby => ?_⟩
          by_cases e : y = m
          · rw [e]; omega
          · exact h3 y (by omega) hby
    · rw [if_neg (fun z => hbit ((q_bit b m hb (by omega)).mp z))] at st
      refine ⟨(o, c), st, ?_, hcv⟩
      cases o with
      | none =>
        intro y hy
        by_cases e : y = m
        · rw [e]; exact Bool.eq_false_iff.mpr hbit
        · exact hp y (by omega)
      | some x =>
        obtain ⟨h1, h2, h3⟩ := hp
        refine ⟨by omega, h2, fun y hy hby => ?_⟩
        by_cases e : y = m
        · rw [e] at hby; exact absurd hby hbit
        · exact h3 y (by omega) hby) (none, 99) ⟨fun m hm => absurd hm (Nat.not_lt_zero m), rfl⟩
  refine (e.trans (sL_plainest_10 ..)).trans ?_
  rw [if_pos (by decide), i1, la.1.2.1, if_neg (by rw [nI_ltI (by omega) (by omega)]; omega), isPl_uniq (plainest_is b) hp]
theorem l_isSame (d : Nat) {k s : Nat} {th : Option Nat} (hT : WT T) (hB : LB T) (la : LA T (O 7 0)) (hk : k < nK T) (hs : s < nS T) (h : O 7 0 8 (10 * k + s) = oI th) (hm : ∀ m, th = some m → m < nM T) : ex (d + 1) 134 0 [some (vr 7 0 8), some (vr 7 0 2), some (vr 7 0 3), some (vi (nI k)), some (vi (nI s))] [] O = some (bI (inO th (tgL T s)), O) := by
  obtain ⟨b1, b2, b3, b4, b5, b6, b7, b8⟩ := hB
  have hg := hT.2.2.2.2.2.2.1 s hs
  refine (sL_isSame_0 ..).trans ?_
  cases th with
  | none =>
    rw [pk_mul, nI_add, if_pos (ib_n (by omega) (by decide)), nI_clamp (by omega), h, if_pos oI_lt0]
    rfl
  | some m =>
    have hmm := hm m rfl
    have h : O 7 0 8 (10 * k + s) = nI m := h
    rw [pk_mul, nI_add, if_pos (ib_n (by omega) (by decide)), nI_clamp (by omega), h]
    have a1 := are_lt hT m
    have a2 := are_lt hT (tg_ T s)
    rw [if_neg (by rw [nI_ltI (by omega) (by omega)]; omega), pk_mul, nI_add, if_pos (ib_n (by omega) (by decide)), if_pos (ib_n (by omega) (by decide)), nI_clamp (by omega), nI_clamp (by omega), la.2.2.2.1 s hs, pk_mul, nI_add, if_pos (ib_n (by omega) (by decide)), nI_clamp (by omega), (la.2.2.1 m hmm).2.2, (la.2.2.1 _ hg).2.2]
    have e : inO (some m) (tgL T s) = decide (are T m = are T (tg_ T s)) := by
      show (ms (nM T) fun o => are T (tg_ T s) == are T o).testBit m = _
      rw [ms_bit, decide_eq_true hmm, Bool.true_and, Bool.eq_iff_iff]
      simp only [beq_iff_eq, decide_eq_true_eq]
      exact eq_comm
    rw [e]
    by_cases c : are T m = are T (tg_ T s)
    · rw [if_pos (by rw [c]), decide_eq_true c]; rfl
    · rw [if_neg (by rw [nI_eq (by omega) (by omega)]; exact c), decide_eq_false c]; rfl
theorem and_fitg {x t : Nat} {so : Bool} {y : Nat} (hx : x < 2 ^ nM T) (ht : t < nT T) (hy : ∀ i, y.testBit i = (x.testBit i && !(decide (i < nM T) && !((are T i).testBit t == so)))) : y = x &&& fitg T t so := by
  apply Nat.eq_of_testBit_eq
  intro i
  rw [hy i, Nat.testBit_and]
  by_cases hi : i < nM T
  · rw [fitg_bit hi ht, decide_eq_true hi, Bool.true_and, Bool.not_not]
  · rw [Nat.testBit_lt_two_pow (Nat.lt_of_lt_of_le hx (Nat.pow_le_pow_right (by decide) (by omega))), Bool.false_and, Bool.false_and]
theorem l_fitting (d : Nat) {f : Nat → Nat × Nat × Bool} {n s : Nat} (hT : WT T) (hB : LB T) (la : LA T (O 7 0)) (hs : s < 4) (hn : n ≤ 20) (sh : SH (O 7 0) f n) (hf : ∀ j, j < n → (f j).1 < nS T ∧ (f j).2.1 < nT T) : ex (d + 1) 133 0 [some (vr 7 0 7), some (vi (nI n)), some (vr 7 0 2), some (vr 7 0 5), some (vi (nI s))] [] O = some (nI ((mds T f n).1 s), O) := by
  obtain ⟨b1, b2, b3, b4, b5, b6, b7, b8⟩ := hB
  have i1 : (nI 1).toNatClampNeg = 1 := by decide
  have hW : ∀ j, (mds T f j).1 s < 2 ^ nM T ∨ 1000 < j := fun j => by
    by_cases h : j ≤ 1000
    · exact Or.inl ((mds_wf (T := T) (f := f) j h).1 s)
    · exact Or.inr (by omega)
  refine (sL_fitting_0 ..).trans ?_
  rw [if_pos (by decide), i1, la.1.2.1, q_shlm _ (by omega)]
  obtain ⟨x, e, hx⟩ := lp_i (fun j (x : Nat) => ex (d + 1) 133 12 [some (vr 7 0 7), some (vi (nI n)), some (vr 7 0 2), some (vr 7 0 5), some (vi (nI s)), some (vi (nI x)), some (vi (nI j))] [] O) (fun j x => x = (mds T f j).1 s) n (fun j x hj hx => by
    obtain ⟨s1, s2, s3⟩ := sh j hj
    obtain ⟨f1, f2⟩ := hf j hj
    have hxl : x < 2 ^ nM T := by rw [hx]; exact (hW j).resolve_right (by omega)
    have st := sL_fitting_12 d O (nI n) (nI s) (nI x) (nI j)
    rw [if_pos (by rw [nI_ltI (by omega) (by omega)]; exact hj)] at st
    obtain ⟨y, e2, hy⟩ := lp_i (fun m (y : Nat) => ex (d + 1) 133 21 [some (vr 7 0 7), some (vi (nI n)), some (vr 7 0 2), some (vr 7 0 5), some (vi (nI s)), some (vi (nI y)), some (vi (nI j)), some (vi (nI m))] [] O) (fun m y => ∀ i, y.testBit i = (x.testBit i && !(decide (i < m) && (decide ((f j).1 = s) && !((are T i).testBit (f j).2.1 == (f j).2.2))))) (nM T) (fun m y hm hy => by
      have s21 := sL_fitting_21 d O (nI n) (nI s) (nI y) (nI j) (nI m)
      rw [if_pos (by decide), i1, la.1.2.1, if_pos (by rw [nI_ltI (by omega) (by omega)]; exact hm), pk_mul, if_pos (ib_n (by omega) (by decide)), nI_clamp (by omega), s1] at s21
      by_cases c : (f j).1 = s
      · have a1 := are_lt hT m
        rw [if_pos (by rw [c]), pk_mul, nI_add, nI_add, nI_add, if_pos (ib_n (by omega) (by decide)), if_pos (ib_n (by omega) (by decide)), if_pos (ib_n (by omega) (by decide)), nI_clamp (by omega), nI_clamp (by omega), nI_clamp (by omega), s2, s3, (la.2.2.1 m hm).2.2, q_bitv _ _ (by omega) (by omega), nI_add] at s21
        by_cases c2 : (are T m).testBit (f j).2.1 = (f j).2.2
        · rw [if_pos (by rw [c2]), q_m1] at s21
          refine ⟨y, s21, fun i => ?_⟩
          rw [hy i]
          by_cases e : i = m
          · subst e
            simp [c2]
          · rw [show decide (i < m + 1) = decide (i < m) from decide_eq_decide.mpr (by omega)]
        · rw [if_neg (by rw [bI_eq]; exact c2), q_shl m (by omega), q_dn] at s21
          refine ⟨_, s21, fun i => ?_⟩
          rw [dn_bit, hy i]
          by_cases e : i = m
          · subst e
            simp [c, c2]
          · rw [show decide (i < m + 1) = decide (i < m) from decide_eq_decide.mpr (by omega), Nat.testBit_two_pow_of_ne (Ne.symm e)]
            simp
      · rw [if_neg (by rw [nI_eq (by omega) (by omega)]; exact c), q_m1, nI_add] at s21
        refine ⟨y, s21, fun i => ?_⟩
        rw [hy i, decide_eq_false c]
        simp) x (fun i => by simp)
    have s21 := sL_fitting_21 d O (nI n) (nI s) (nI y) (nI j) (nI (nM T))
    rw [if_pos (by decide), i1, la.1.2.1, if_neg (by rw [nI_ltI (by omega) (by omega)]; omega), nI_add] at s21
    refine ⟨y, st.trans (e2.trans s21), ?_⟩
    show y = upF (mds T f j).1 (f j).1 ((mds T f j).1 (f j).1 &&& fitg T (f j).2.1 (f j).2.2) s
    unfold upF
    by_cases c : s = (f j).1
    · rw [if_pos c, ← c, ← hx]
      refine and_fitg hxl f2 (fun i => ?_)
      rw [hy i, decide_eq_true c.symm, Bool.true_and]
    · rw [if_neg c, ← hx]
      apply Nat.eq_of_testBit_eq
      intro i
      rw [hy i, decide_eq_false (p := (f j).1 = s) (fun z => c z.symm)]
      simp) (2 ^ nM T - 1) rfl
  refine (e.trans (sL_fitting_12 ..)).trans ?_
  rw [if_neg (by rw [nI_ltI (by omega) (by omega)]; omega), hx]
theorem l_fresh (d : Nat) : ∃ O', ex (d + 1) 130 0 [some (vr 7 0 8)] [] O = some (nI 0, O') ∧ Fr8 O O' ∧ ∀ k, k < 4 → KS (O' 7 0) k mi0 := by
  obtain ⟨O1, e, f, h⟩ := lp_i (fun j (O : Mem_) => ex (d + 1) 130 2 [some (vr 7 0 8), some (vi (nI j))] [] O) (fun j O' => Fr8 O O' ∧ ∀ q, q < j → O' 7 0 8 q = if q % 10 < 4 ∨ 7 < q % 10 then oI none else nI 0) 40 (fun j O' hj ⟨f, h⟩ => by
    have st := sL_fresh_2 d O' (nI j)
    rw [if_pos (by rw [nI_ltI (by omega) (by omega)]; exact hj)] at st
    simp only [if_neg (show ¬ nI 10 = nI 0 by decide), if_pos (ib_n hj (show 40 < 2 ^ 31 by decide)), nI_add, pk_rem (show j < 2 ^ 31 by omega) (show 0 < 10 by decide) (show 10 < 2 ^ 31 by decide), nI_clamp (show j < 2 ^ 31 by omega)] at st
    have fin : ∀ v, (ex (d + 1) 130 2 [some (vr 7 0 8), some (vi (nI j))] [] O' = ex (d + 1) 130 2 [some (vr 7 0 8), some (vi (nI (j + 1)))] [] (up O' 7 0 8 j v)) → v = (if j % 10 < 4 ∨ 7 < j % 10 then oI none else nI 0) → ∃ a', ex (d + 1) 130 2 [some (vr 7 0 8), some (vi (nI j))] [] O' = ex (d + 1) 130 2 [some (vr 7 0 8), some (vi (nI (j + 1)))] [] a' ∧ Fr8 O a' ∧ ∀ q, q < j + 1 → a' 7 0 8 q = if q % 10 < 4 ∨ 7 < q % 10 then oI none else nI 0 := fun v e1 e2 => by
      refine ⟨_, e1, f.u, fun q hq => ?_⟩
      by_cases e : q = j
      · rw [e, up_eq, e2]
      · rw [up_ne (by omega)]; exact h q (by omega)
    have hm : j % 10 < 10 := Nat.mod_lt _ (by decide)
    by_cases c1 : j % 10 < 4
    · rw [if_pos (by rw [nI_ltI (by omega) (by omega)]; exact c1)] at st
      exact fin _ st (by rw [if_pos (Or.inl c1)])
    · rw [if_neg (by rw [nI_ltI (by omega) (by omega)]; exact c1)] at st
      by_cases c2 : 7 < j % 10
      · rw [if_pos (by rw [nI_ltI (by omega) (by omega)]; exact c2)] at st
        exact fin _ st (by rw [if_pos (Or.inr c2)])
      · rw [if_neg (by rw [nI_ltI (by omega) (by omega)]; exact c2)] at st
        exact fin _ st (by rw [if_neg (by omega)])) O ⟨Fr8.rf, fun q hq => absurd hq (Nat.not_lt_zero q)⟩
  refine ⟨O1, (sL_fresh_0 ..).trans (e.trans ((sL_fresh_2 ..).trans (if_neg (by decide)))), f, fun k hk => ⟨fun s hs => ⟨?_, ?_⟩, ?_, ?_⟩⟩
  · rw [h _ (by omega), if_pos (by omega)]; rfl
  · rw [h _ (by omega), if_neg (by omega)]; rfl
  · rw [h _ (by omega), if_pos (by omega)]; rfl
  · rw [h _ (by omega), if_pos (by omega)]; rfl
end
