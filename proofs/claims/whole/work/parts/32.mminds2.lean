/-! THE MODEL'S MINDS, 2: flees, sees, wakes, copies; what is asked of them. -/
section
variable {T : Td_} {O : Mem_}
def NM (R : Nat → Nat → Int32) (b : Nat) (T : Td_) (M : Md_) : Prop := (∀ k, k < nK T → KN R (b + 10 * k) (M.2 k)) ∧ ∃ S N : Nat → Nat, ∀ s, s < 4 → R 28 (b + 60 + s) = nI (S s) ∧ R 28 (b + 64 + s) = nI (N s) ∧ S s < 256 ∧ N s < 256 ∧ M.1 s = fitSN T (S s) (N s)
theorem NM.nx {a l b : Nat} {O O' : Mem_} {M : Md_} (hT : WT T) (h : NX a l O O') (hd : b + 70 ≤ a ∨ a + l ≤ b) (g : NM (O 7 0) b T M) : NM (O' 7 0) b T M := by
  have h6 := hT.2.2.2.1
  obtain ⟨g1, S, N, g2⟩ := g
  refine ⟨fun k hk => (g1 k hk).nx h (by omega), S, N, fun s hs => ?_⟩
  rw [h.2 _ _ (by omega), h.2 _ _ (by omega)]
  exact g2 s hs
theorem n_flees (d : Nat) {a i : Nat} (ha : a + 10 ≤ 210) : ∃ O', ex (d + 1) 160 0 [some (vr 7 0 0), some (vi (nI a)), some (vi (nI i))] [] O = some (nI 0, O') ∧ NX a 10 O O' ∧ ∀ la, O 7 0 28 (a + 8) = oI la → KN (O' 7 0) a (fun _ => none, fun _ => 0, la, some i) := by
  rw [sX7_flees_0]
  simp (disch := omega) only [nI_ltI, nI_eq, nI_add, nI_clamp, ib_n, pk_mul, q_and, q_or, q_dn, q_shl, q_shlm, q_p1, if_true, if_false, ↓reduceIte, Option.bind_some, bI_0, bI_1, bI_01, b_or, Nat.not_lt_zero, Nat.zero_add, Bool.false_eq_true, Bool.true_eq_false, or_false, or_true, true_or, false_or]
  refine Exists.elim (lp_i (fun s (O : Mem_) => ex (d + 1) 160 12 [some (vr 7 0 0), some (vi (nI a)), none, some (vi (nI s))] [] O) (fun s O' => NX a 10 O O' ∧ O' 7 0 28 (a + 8) = O 7 0 28 (a + 8) ∧ O' 7 0 28 (a + 9) = nI i ∧ ∀ q, q < s → O' 7 0 28 (a + q) = oI none ∧ O' 7 0 28 (a + 4 + q) = nI 0) 4 ?_ (up O 7 0 28 (a + 9) (nI i)) ⟨NX.rfl.up (by omega), up_ne (by omega), up_eq .., fun q hq => by omega⟩) ?_
  · intro s O' hs ⟨h1, h2, h3, h4⟩
    refine ⟨up (up O' 7 0 28 (a + s) (oI none)) 7 0 28 (a + 4 + s) (nI 0), ?_, (h1.up (by omega)).up (by omega), ?_, ?_, fun q hq => ?_⟩
    · refine (sX7_flees_12 ..).trans ?_
      simp (disch := omega) only [nI_ltI, nI_eq, nI_add, nI_clamp, ib_n, pk_mul, q_and, q_or, q_dn, q_shl, q_shlm, q_p1, if_true, if_false, ↓reduceIte, Option.bind_some, bI_0, bI_1, bI_01, b_or, Nat.not_lt_zero, Nat.zero_add, Bool.false_eq_true, Bool.true_eq_false, or_false, or_true, true_or, false_or, hs]
    · rw [up_ne (by omega), up_ne (by omega)]; exact h2
    · rw [up_ne (by omega), up_ne (by omega)]; exact h3
    · by_cases e : q = s
      · subst e; simp (disch := omega) only [up_ne, up_eq, and_self]
      · simp (disch := omega) only [up_ne]; exact h4 q (by omega)
  · rintro O' ⟨e, h1, h2, h3, h4⟩
    refine ⟨O', e.trans ?_, h1, fun la hla => ⟨fun s hs => h4 s hs, h2.trans hla, h3⟩⟩
    refine (sX7_flees_12 ..).trans ?_
    simp (disch := omega) only [nI_ltI, nI_eq, nI_add, nI_clamp, ib_n, pk_mul, q_and, q_or, q_dn, q_shl, q_shlm, q_p1, if_true, if_false, ↓reduceIte, Option.bind_some, bI_0, bI_1, bI_01, b_or, Nat.not_lt_zero, Nat.zero_add, Bool.false_eq_true, Bool.true_eq_false, or_false, or_true, true_or, false_or, Nat.lt_irrefl]
theorem n_sees (d : Nat) {b i s t : Nat} {so : Bool} {M : Md_} (hb : b ≤ 140) (hs : s < nS T) (ht : t < nT T) (h : MT (O 7 0) T) (hT : WT T) (hm : NM (O 7 0) b T M) (hw : WMd T M) (hi : i < 1000) : ∃ O', ex (d + 6) 161 0 [some (vr 7 0 0), some (vi (nI b)), some (vi (nI i)), some (vi (nI s)), some (vi (nI t)), some (vi (bI so))] [] O = some (nI 0, O') ∧ NX b 70 O O' ∧ NM (O' 7 0) b T (see T i s t so M) := by
  have h6 := hT.2.2.2.1
  have h4 := hT.2.2.1
  have h8 := hT.1
  obtain ⟨hm1, S, N, hSN⟩ := hm
  obtain ⟨s1, s2, s3, s4, s5⟩ := hSN s (by omega)
  have hp : (2:Nat) ^ t < 2 ^ 8 := Nat.pow_lt_pow_right (by decide) (by omega)
  -- the two masks
  obtain ⟨S1, N1, e1, b1, b2, f1⟩ : ∃ S1 N1, ex (d + 6) 161 0 [some (vr 7 0 0), some (vi (nI b)), some (vi (nI i)), some (vi (nI s)), some (vi (nI t)), some (vi (bI so))] [] O = ex (d + 6) 161 57 [some (vr 7 0 0), some (vi (nI b)), some (vi (nI i)), some (vi (nI s)), some (vi (nI t)), some (vi (bI so)), some (vi (nI 0))] [] (up (up O 7 0 28 (b + 60 + s) (nI S1)) 7 0 28 (b + 64 + s) (nI N1)) ∧ S1 < 256 ∧ N1 < 256 ∧ fitSN T S1 N1 = M.1 s &&& fitg T t so := by
    cases so with
    | true =>
      refine ⟨S s ||| 2 ^ t, N s, ?_, Nat.or_lt_two_pow (n := 8) s3 hp, s4, by rw [s5]; exact fitSN_t ht⟩
      rw [sX7_sees_0]
      simp (disch := omega) only [nI_ltI, nI_eq, nI_add, nI_clamp, ib_n, pk_mul, q_and, q_or, q_dn, q_shl, q_shlm, q_p1, if_true, if_false, ↓reduceIte, Option.bind_some, bI_0, bI_1, bI_01, b_or, Nat.not_lt_zero, Nat.zero_add, Bool.false_eq_true, Bool.true_eq_false, or_false, or_true, true_or, false_or, s1]
      rw [sX7_sees_25]
      simp (disch := omega) only [nI_ltI, nI_eq, nI_add, nI_clamp, ib_n, pk_mul, q_and, q_or, q_dn, q_shl, q_shlm, q_p1, if_true, if_false, ↓reduceIte, Option.bind_some, bI_0, bI_1, bI_01, b_or, Nat.not_lt_zero, Nat.zero_add, Bool.false_eq_true, Bool.true_eq_false, or_false, or_true, true_or, false_or, s2, up_ne, Nat.or_zero]
    | false =>
      refine ⟨S s, N s ||| 2 ^ t, ?_, s3, Nat.or_lt_two_pow (n := 8) s4 hp, by rw [s5]; exact fitSN_f ht⟩
      rw [sX7_sees_0]
      simp (disch := omega) only [nI_ltI, nI_eq, nI_add, nI_clamp, ib_n, pk_mul, q_and, q_or, q_dn, q_shl, q_shlm, q_p1, if_true, if_false, ↓reduceIte, Option.bind_some, bI_0, bI_1, bI_01, b_or, Nat.not_lt_zero, Nat.zero_add, Bool.false_eq_true, Bool.true_eq_false, or_false, or_true, true_or, false_or, s1]
      rw [sX7_sees_25]
      simp (disch := omega) only [nI_ltI, nI_eq, nI_add, nI_clamp, ib_n, pk_mul, q_and, q_or, q_dn, q_shl, q_shlm, q_p1, if_true, if_false, ↓reduceIte, Option.bind_some, bI_0, bI_1, bI_01, b_or, Nat.not_lt_zero, Nat.zero_add, Bool.false_eq_true, Bool.true_eq_false, or_false, or_true, true_or, false_or, s2, up_ne, Nat.or_zero]
  rw [e1]
  generalize hO1 : up (up O 7 0 28 (b + 60 + s) (nI S1)) 7 0 28 (b + 64 + s) (nI N1) = O1
  have x1 : NX (b + 60) 10 O O1 := by rw [← hO1]; exact (NX.rfl.up (by omega)).up (by omega)
  have y1 : O1 7 0 28 (b + 60 + s) = nI S1 := by rw [← hO1, up_ne (by omega), up_eq]
  have y2 : O1 7 0 28 (b + 64 + s) = nI N1 := by rw [← hO1, up_eq]
  have y3 : ∃ S N : Nat → Nat, ∀ s', s' < 4 → O1 7 0 28 (b + 60 + s') = nI (S s') ∧ O1 7 0 28 (b + 64 + s') = nI (N s') ∧ S s' < 256 ∧ N s' < 256 ∧ (see T i s t so M).1 s' = fitSN T (S s') (N s') := by
    refine ⟨upF S s S1, upF N s N1, fun s' hs' => ?_⟩
    by_cases e : s' = s
    · subst e
      simp only [upF, if_true, see]
      exact ⟨y1, y2, b1, b2, f1.symm⟩
    · simp only [upF, e, if_false, see]
      rw [← hO1, up_ne (by omega), up_ne (by omega), up_ne (by omega), up_ne (by omega)]
      exact hSN s' hs'
  refine Exists.elim (lp_i (fun k (O : Mem_) => ex (d + 6) 161 57 [some (vr 7 0 0), some (vi (nI b)), some (vi (nI i)), some (vi (nI s)), some (vi (nI t)), some (vi (bI so)), some (vi (nI k))] [] O) (fun k O' => NX b 60 O1 O' ∧ ∀ k', k' < nK T → KN (O' 7 0) (b + 10 * k') (if k' < k then (see T i s t so M).2 k' else M.2 k')) (nK T) ?_ O1 ⟨NX.rfl, fun k hk => by rw [if_neg (Nat.not_lt_zero _)]; exact (hm1 k hk).nx x1 (by omega)⟩) ?_
  · intro k O' hk ⟨g1, g2⟩
    have hMT : MT (O' 7 0) T := (h.nx x1).nx g1
    have km := g2 k hk
    rw [if_neg (Nat.lt_irrefl k)] at km
    have km5 := km.2.2
    have wk := hw.2 k
    have others : ∀ (O2 : Mem_), NX (b + 10 * k) 10 O' O2 → KN (O2 7 0) (b + 10 * k) ((see T i s t so M).2 k) → ∀ k', k' < nK T → KN (O2 7 0) (b + 10 * k') (if k' < k + 1 then (see T i s t so M).2 k' else M.2 k') := fun O2 hx hkm k' hk' => by
      by_cases e : k' = k
      · subst e; rw [if_pos (Nat.lt_succ_self _)]; exact hkm
      · have := g2 k' hk'
        by_cases z : k' < k
        · rw [if_pos z] at this; rw [if_pos (by omega)]; exact this.nx hx (by omega)
        · rw [if_neg z] at this; rw [if_neg (by omega)]; exact this.nx hx (by omega)
    cases hfl : (M.2 k).2.2.2 with
    | some x =>
      have hx := wk.2.2.2 x hfl
      have e2 : (see T i s t so M).2 k = M.2 k := by simp [see, see1, hfl]
      refine ⟨O', ?_, g1, others O' NX.rfl (by rw [e2]; exact km)⟩
      have hne := oI_sn (j := x) (by omega)
      refine (sX7_sees_57 ..).trans ?_
      simp (disch := omega) only [nI_ltI, nI_eq, nI_add, nI_clamp, ib_n, pk_mul, q_and, q_or, q_dn, q_shl, q_shlm, q_p1, if_true, if_false, ↓reduceIte, Option.bind_some, bI_0, bI_1, bI_01, b_or, Nat.not_lt_zero, Nat.zero_add, Bool.false_eq_true, Bool.true_eq_false, or_false, or_true, true_or, false_or, hMT.1.2.2.2, hk, km5, hfl, hne]
    | none =>
      by_cases hfe : fe_ T k = some t
      · obtain ⟨O2, q1, q2, q3⟩ := n_flees (O := O') (d + 4) (a := b + 10 * k) (i := i) (by omega)
        have e2 : (see T i s t so M).2 k = (fun _ => none, fun _ => 0, (M.2 k).2.2.1, some i) := by simp [see, see1, hfl, hfe]
        refine ⟨O2, ?_, g1.trans (q2.wide (by omega) (by omega)), others O2 q2 (by rw [e2]; exact q3 _ km.2.1)⟩
        refine (sX7_sees_57 ..).trans ?_
        simp (disch := omega) only [nI_ltI, nI_eq, nI_add, nI_clamp, ib_n, pk_mul, q_and, q_or, q_dn, q_shl, q_shlm, q_p1, if_true, if_false, ↓reduceIte, Option.bind_some, bI_0, bI_1, bI_01, b_or, Nat.not_lt_zero, Nat.zero_add, Bool.false_eq_true, Bool.true_eq_false, or_false, or_true, true_or, false_or, hMT.1.2.2.2, hk, km5, hfl, (hMT.2.2.2.2 k hk).2.2.1, hfe, oI]
        rw [q1]
        rfl
      · have hne : ¬ oI (fe_ T k) = nI t := fun e => hfe ((oI_inj (b := some t) (fun j e => by have := hT.2.2.2.2.2.2.2.2 k j e; omega) (fun j e => by cases e; omega)).mp e)
        have e2 : (see T i s t so M).2 k = look1 T k s t so (M.1 s &&& fitg T t so) (M.2 k) := by simp [see, see1, hfl, hfe]
        have lk := n_looks (O := O') d (so := so) (t := t) (μ := M.2 k) hb hk hs ht hMT hT (by rw [g1.2 _ _ (by omega)]; exact y1) (by rw [g1.2 _ _ (by omega)]; exact y2) (by omega) (by omega) km wk
        rw [f1] at lk
        generalize hO2 : up (up (up O' 7 0 28 (b + 10 * k + s) (oI (thk T k s t so (M.1 s &&& fitg T t so) (M.2 k)).1)) 7 0 28 (b + 10 * k + 4 + s) (nI (thk T k s t so (M.1 s &&& fitg T t so) (M.2 k)).2)) 7 0 28 (b + 10 * k + 8) (oI ((thk T k s t so (M.1 s &&& fitg T t so) (M.2 k)).1 <|> (M.2 k).2.2.1)) = O2 at lk
        have q2 : NX (b + 10 * k) 10 O' O2 := by rw [← hO2]; exact ((NX.rfl.up (by omega)).up (by omega)).up (by omega)
        refine ⟨O2, ?_, g1.trans (q2.wide (by omega) (by omega)), others O2 q2 ?_⟩
        · refine (sX7_sees_57 ..).trans ?_
          simp (disch := omega) only [nI_ltI, nI_eq, nI_add, nI_clamp, ib_n, pk_mul, q_and, q_or, q_dn, q_shl, q_shlm, q_p1, if_true, if_false, ↓reduceIte, Option.bind_some, bI_0, bI_1, bI_01, b_or, Nat.not_lt_zero, Nat.zero_add, Bool.false_eq_true, Bool.true_eq_false, or_false, or_true, true_or, false_or, hMT.1.2.2.2, hk, km5, hfl, (hMT.2.2.2.2 k hk).2.2.1, hne]
          rw [lk]
          rfl
        · rw [e2, ← hO2]
          refine ⟨fun s' hs' => ?_, ?_, ?_⟩
          · have kq := km.1 s' hs'
            simp only [look1, upF]
            by_cases e : s' = s
            · subst e
              simp (disch := omega) only [up_ne, up_eq, if_true, and_self]
            · simp (disch := omega) only [up_ne, up_eq, e, if_false]
              exact kq
          · rw [up_eq]; rfl
          · simp (disch := omega) only [up_ne]; exact km5
  · rintro O2 ⟨e2, g1, g2⟩
    refine ⟨O2, e2.trans ?_, (x1.wide (by omega) (by omega)).trans (g1.wide (by omega) (by omega)), fun k hk => ?_, ?_⟩
    · have hMT : MT (O2 7 0) T := (h.nx x1).nx g1
      refine (sX7_sees_57 ..).trans ?_
      simp (disch := omega) only [nI_ltI, nI_eq, nI_add, nI_clamp, ib_n, pk_mul, q_and, q_or, q_dn, q_shl, q_shlm, q_p1, if_true, if_false, ↓reduceIte, Option.bind_some, bI_0, bI_1, bI_01, b_or, Nat.not_lt_zero, Nat.zero_add, Bool.false_eq_true, Bool.true_eq_false, or_false, or_true, true_or, false_or, hMT.1.2.2.2, Nat.lt_irrefl]
    · have := g2 k hk
      rw [if_pos hk] at this
      exact this
    · obtain ⟨S', N', y⟩ := y3
      refine ⟨S', N', fun s' hs' => ?_⟩
      rw [g1.2 _ _ (by omega), g1.2 _ _ (by omega)]
      exact y s' hs'
theorem fitSN_00 : fitSN T 0 0 = 2 ^ nM T - 1 := by
  apply Nat.eq_of_testBit_eq
  intro m
  rw [fitSN, ms_bit, Nat.testBit_two_pow_sub_one]
  have : dn 0 (are T m) = 0 := Nat.le_zero.mp (dn_le _ _)
  simp [this]
theorem n_wakes (d : Nat) {b : Nat} (hb : b ≤ 140) (hT : WT T) : ∃ O', ex (d + 2) 153 0 [some (vr 7 0 0), some (vi (nI b))] [] O = some (nI 0, O') ∧ NX b 70 O O' ∧ NM (O' 7 0) b T (md0 T) := by
  have h6 := hT.2.2.2.1
  rw [sX7_wakes_0]
  refine Exists.elim (lp_i (fun i (O : Mem_) => ex (d + 2) 153 2 [some (vr 7 0 0), some (vi (nI b)), some (vi (nI i))] [] O) (fun i O' => NX b 70 O O' ∧ ∀ q, q < i → O' 7 0 28 (b + q) = if q < 60 ∧ ¬ (4 ≤ q % 10 ∧ q % 10 ≤ 7) then oI none else nI 0) 70 ?_ O ⟨NX.rfl, fun q hq => by omega⟩) ?_
  · intro i O' hi ⟨h1, h2⟩
    have fin : ∀ v, v = (if i < 60 ∧ ¬ (4 ≤ i % 10 ∧ i % 10 ≤ 7) then oI none else nI 0) → NX b 70 O (up O' 7 0 28 (b + i) v) ∧ ∀ q, q < i + 1 → up O' 7 0 28 (b + i) v 7 0 28 (b + q) = if q < 60 ∧ ¬ (4 ≤ q % 10 ∧ q % 10 ≤ 7) then oI none else nI 0 := fun v hv => ⟨h1.up (by omega), fun q hq => by
      by_cases e : q = i
      · subst e; rw [up_eq, hv]
      · rw [up_ne (by omega)]; exact h2 q (by omega)⟩
    by_cases h60 : i < 60
    · by_cases hr : 4 ≤ i % 10 ∧ i % 10 ≤ 7
      · refine ⟨_, ?_, fin (nI 0) (by rw [if_neg (fun z => z.2 hr)])⟩
        refine (sX7_wakes_2 ..).trans ?_
        simp (disch := omega) only [nI_ltI, nI_eq, nI_add, nI_clamp, ib_n, pk_mul, q_and, q_or, q_dn, q_shl, q_shlm, q_p1, if_true, if_false, ↓reduceIte, Option.bind_some, bI_0, bI_1, bI_01, b_or, Nat.not_lt_zero, Nat.zero_add, Bool.false_eq_true, Bool.true_eq_false, or_false, or_true, true_or, false_or, hi, h60, pk_rem, m_in d _ (nI (i % 10)) (nI 4) (nI 7) (a := 4) (b := 7) (by decide) (by decide), inI_n, hr.1, hr.2, decide_true, Bool.and_self]
        rfl
      · refine ⟨_, ?_, fin (oI none) (by rw [if_pos ⟨h60, hr⟩])⟩
        have hf : (decide (4 ≤ i % 10) && decide (i % 10 ≤ 7)) = false := by
          rw [← Bool.decide_and]; exact decide_eq_false hr
        refine (sX7_wakes_2 ..).trans ?_
        simp (disch := omega) only [nI_ltI, nI_eq, nI_add, nI_clamp, ib_n, pk_mul, q_and, q_or, q_dn, q_shl, q_shlm, q_p1, if_true, if_false, ↓reduceIte, Option.bind_some, bI_0, bI_1, bI_01, b_or, Nat.not_lt_zero, Nat.zero_add, Bool.false_eq_true, Bool.true_eq_false, or_false, or_true, true_or, false_or, hi, h60, pk_rem, m_in d _ (nI (i % 10)) (nI 4) (nI 7) (a := 4) (b := 7) (by decide) (by decide), inI_n, hf]
        rfl
    · refine ⟨_, ?_, fin (nI 0) (by rw [if_neg (fun z => h60 z.1)])⟩
      refine (sX7_wakes_2 ..).trans ?_
      simp (disch := omega) only [nI_ltI, nI_eq, nI_add, nI_clamp, ib_n, pk_mul, q_and, q_or, q_dn, q_shl, q_shlm, q_p1, if_true, if_false, ↓reduceIte, Option.bind_some, bI_0, bI_1, bI_01, b_or, Nat.not_lt_zero, Nat.zero_add, Bool.false_eq_true, Bool.true_eq_false, or_false, or_true, true_or, false_or, hi, h60]
      rfl
  · rintro O' ⟨e, h1, h2⟩
    refine ⟨O', e.trans ?_, h1, fun k hk => ⟨fun s hs => ⟨?_, ?_⟩, ?_, ?_⟩, fun _ => 0, fun _ => 0, fun s hs => ⟨?_, ?_, Nat.zero_lt_succ _, Nat.zero_lt_succ _, fitSN_00.symm⟩⟩
    · refine (sX7_wakes_2 ..).trans ?_
      simp (disch := omega) only [nI_ltI, nI_eq, nI_add, nI_clamp, ib_n, pk_mul, q_and, q_or, q_dn, q_shl, q_shlm, q_p1, if_true, if_false, ↓reduceIte, Option.bind_some, bI_0, bI_1, bI_01, b_or, Nat.not_lt_zero, Nat.zero_add, Bool.false_eq_true, Bool.true_eq_false, or_false, or_true, true_or, false_or, Nat.lt_irrefl]
    · rw [show b + 10 * k + s = b + (10 * k + s) by omega, h2 _ (by omega), if_pos (by omega)]; rfl
    · rw [show b + 10 * k + 4 + s = b + (10 * k + 4 + s) by omega, h2 _ (by omega), if_neg (by omega)]; rfl
    · rw [show b + 10 * k + 8 = b + (10 * k + 8) by omega, h2 _ (by omega), if_pos (by omega)]; rfl
    · rw [show b + 10 * k + 9 = b + (10 * k + 9) by omega, h2 _ (by omega), if_pos (by omega)]; rfl
    · rw [show b + 60 + s = b + (60 + s) by omega, h2 _ (by omega), if_neg (by omega)]
    · rw [show b + 64 + s = b + (64 + s) by omega, h2 _ (by omega), if_neg (by omega)]
theorem n_copies (d : Nat) {b a : Nat} {M : Md_} (hb : b ≤ 140) (ha : a ≤ 140) (hd : b + 70 ≤ a ∨ a + 70 ≤ b) (hT : WT T) (hm : NM (O 7 0) a T M) : ∃ O', ex (d + 1) 178 0 [some (vr 7 0 0), some (vi (nI b)), some (vi (nI a))] [] O = some (nI 0, O') ∧ NX b 70 O O' ∧ NM (O' 7 0) b T M := by
  have h6 := hT.2.2.2.1
  rw [sX7_copies_0]
  refine Exists.elim (lp_i (fun i (O : Mem_) => ex (d + 1) 178 2 [some (vr 7 0 0), some (vi (nI b)), some (vi (nI a)), some (vi (nI i))] [] O) (fun i O' => NX b 70 O O' ∧ ∀ q, q < i → O' 7 0 28 (b + q) = O 7 0 28 (a + q)) 70 ?_ O ⟨NX.rfl, fun q hq => by omega⟩) ?_
  · intro i O' hi ⟨h1, h2⟩
    refine ⟨up O' 7 0 28 (b + i) (O' 7 0 28 (a + i)), ?_, h1.up (by omega), fun q hq => ?_⟩
    · refine (sX7_copies_2 ..).trans ?_
      simp (disch := omega) only [nI_ltI, nI_eq, nI_add, nI_clamp, ib_n, pk_mul, q_and, q_or, q_dn, q_shl, q_shlm, q_p1, if_true, if_false, ↓reduceIte, Option.bind_some, bI_0, bI_1, bI_01, b_or, Nat.not_lt_zero, Nat.zero_add, Bool.false_eq_true, Bool.true_eq_false, or_false, or_true, true_or, false_or, hi]
    · by_cases e : q = i
      · subst e; rw [up_eq, h1.2 _ _ (by omega)]
      · rw [up_ne (by omega)]; exact h2 q (by omega)
  · rintro O' ⟨e, h1, h2⟩
    obtain ⟨g1, S, N, g2⟩ := hm
    refine ⟨O', e.trans ?_, h1, fun k hk => ⟨fun s hs => ⟨?_, ?_⟩, ?_, ?_⟩, S, N, fun s hs => ?_⟩
    · refine (sX7_copies_2 ..).trans ?_
      simp (disch := omega) only [nI_ltI, nI_eq, nI_add, nI_clamp, ib_n, pk_mul, q_and, q_or, q_dn, q_shl, q_shlm, q_p1, if_true, if_false, ↓reduceIte, Option.bind_some, bI_0, bI_1, bI_01, b_or, Nat.not_lt_zero, Nat.zero_add, Bool.false_eq_true, Bool.true_eq_false, or_false, or_true, true_or, false_or, Nat.lt_irrefl]
    · rw [show b + 10 * k + s = b + (10 * k + s) by omega, h2 _ (by omega), ← Nat.add_assoc]; exact ((g1 k hk).1 s hs).1
    · rw [show b + 10 * k + 4 + s = b + (10 * k + 4 + s) by omega, h2 _ (by omega), show a + (10 * k + 4 + s) = a + 10 * k + 4 + s by omega]; exact ((g1 k hk).1 s hs).2
    · rw [show b + 10 * k + 8 = b + (10 * k + 8) by omega, h2 _ (by omega), ← Nat.add_assoc]; exact (g1 k hk).2.1
    · rw [show b + 10 * k + 9 = b + (10 * k + 9) by omega, h2 _ (by omega), ← Nat.add_assoc]; exact (g1 k hk).2.2
    · rw [show b + 60 + s = b + (60 + s) by omega, show b + 64 + s = b + (64 + s) by omega, h2 _ (by omega), h2 _ (by omega), ← Nat.add_assoc, ← Nat.add_assoc]
      exact g2 s hs
theorem n_isSame (d : Nat) {b k s : Nat} {M : Md_} (hb : b ≤ 140) (hk : k < nK T) (hs : s < nS T) (h : MT (O 7 0) T) (hT : WT T) (hm : NM (O 7 0) b T M) (hw : WMd T M) : ex (d + 2) 172 0 [some (vr 7 0 0), some (vi (nI b)), some (vi (nI k)), some (vi (nI s))] [] O = some (bI (sam T M k s), O) := by
  have h6 := hT.2.2.2.1
  have h4 := hT.2.2.1
  have h12 := hT.2.1
  have km := ((hm.1 k hk).1 s (by omega)).1
  have htg := hT.2.2.2.2.2.2.1 s hs
  rw [sX7_isSame_0]
  simp (disch := omega) only [nI_ltI, nI_eq, nI_add, nI_clamp, ib_n, pk_mul, q_and, q_or, q_dn, q_shl, q_shlm, q_p1, if_true, if_false, ↓reduceIte, Option.bind_some, bI_0, bI_1, bI_01, b_or, Nat.not_lt_zero, Nat.zero_add, Bool.false_eq_true, Bool.true_eq_false, or_false, or_true, true_or, false_or, km]
  cases e : (M.2 k).1 s with
  | none => rw [if_pos rfl]; simp [sam, e, inO, bI]
  | some m =>
    have hmm := (hw.2 k).1 s m e
    have a1 := are_lt hT m
    have a2 := tgA_lt hT s
    rw [if_neg (oI_sn (by omega))]
    simp only [oI]
    simp (disch := omega) only [nI_ltI, nI_eq, nI_add, nI_clamp, ib_n, pk_mul, q_and, q_or, q_dn, q_shl, q_shlm, q_p1, if_true, if_false, ↓reduceIte, Option.bind_some, bI_0, bI_1, bI_01, b_or, Nat.not_lt_zero, Nat.zero_add, Bool.false_eq_true, Bool.true_eq_false, or_false, or_true, true_or, false_or, (h.2.2.1 m hmm).2.2, n_targetOf _ hs h hT]
    simp only [sam, e, inO, Option.any_some, tgL, alike, ms_bit, decide_eq_true hmm, Bool.true_and]
    have : (are T (tg_ T s) == are T m) = decide (are T m = tgA T s) := by
      rw [Bool.eq_iff_iff, beq_iff_eq, decide_eq_true_iff]; exact ⟨fun q => q.symm, fun q => q.symm⟩
    rw [this]
    by_cases q : are T m = tgA T s <;> simp [q, bI]
theorem n_isSameForAll (d : Nat) {b K s : Nat} {M : Md_} (hb : b ≤ 140) (hK : K < 2 ^ 31) (hs : s < nS T) (h : MT (O 7 0) T) (hT : WT T) (hm : NM (O 7 0) b T M) (hw : WMd T M) : ex (d + 3) 176 0 [some (vr 7 0 0), some (vi (nI b)), some (vi (nI K)), some (vi (nI s))] [] O = some (bI (samA T M K s), O) := by
  have h6 := hT.2.2.2.1
  rw [sX7_isSameForAll_0]
  refine Exists.elim (lp_i (fun k (a : Bool) => ex (d + 3) 176 6 [some (vr 7 0 0), some (vi (nI b)), some (vi (nI K)), some (vi (nI s)), some (vi (bI a)), some (vi (nI k))] [] O) (fun k a => a = (List.range k).all fun k => !K.testBit k || sam T M k s) (nK T) ?_ true (by simp)) ?_
  · intro k a hk ha
    refine ⟨a && (!K.testBit k || sam T M k s), ?_, by rw [List.range_succ, List.all_append, ← ha]; simp⟩
    refine (sX7_isSameForAll_6 ..).trans ?_
    cases a with
    | false => simp (disch := omega) only [nI_ltI, nI_eq, nI_add, nI_clamp, ib_n, pk_mul, q_and, q_or, q_dn, q_shl, q_shlm, q_p1, if_true, if_false, ↓reduceIte, Option.bind_some, bI_0, bI_1, bI_01, b_or, Nat.not_lt_zero, Nat.zero_add, Bool.false_eq_true, Bool.true_eq_false, or_false, or_true, true_or, false_or, h.1.2.2.2, hk]; rfl
    | true =>
      simp (disch := omega) only [nI_ltI, nI_eq, nI_add, nI_clamp, ib_n, pk_mul, q_and, q_or, q_dn, q_shl, q_shlm, q_p1, if_true, if_false, ↓reduceIte, Option.bind_some, bI_0, bI_1, bI_01, b_or, Nat.not_lt_zero, Nat.zero_add, Bool.false_eq_true, Bool.true_eq_false, or_false, or_true, true_or, false_or, h.1.2.2.2, hk, q_bitv, n_isSame d hb hk hs h hT hm hw]
      cases K.testBit k <;> cases sam T M k s <;> simp [bI]
  · rintro a ⟨e, ha⟩
    refine e.trans ((sX7_isSameForAll_6 ..).trans ?_)
    simp (disch := omega) only [nI_ltI, nI_eq, nI_add, nI_clamp, ib_n, pk_mul, q_and, q_or, q_dn, q_shl, q_shlm, q_p1, if_true, if_false, ↓reduceIte, Option.bind_some, bI_0, bI_1, bI_01, b_or, Nat.not_lt_zero, Nat.zero_add, Bool.false_eq_true, Bool.true_eq_false, or_false, or_true, true_or, false_or, h.1.2.2.2, Nat.lt_irrefl]
    rw [ha]; rfl
def anyFl (T : Td_) (M : Md_) (K : Nat) : Bool := (List.range (nK T)).any fun k => K.testBit k && (M.2 k).2.2.2.isSome
theorem n_hasFled (d : Nat) {b K : Nat} {M : Md_} (hb : b ≤ 140) (hK : K < 2 ^ 31) (h : MT (O 7 0) T) (hT : WT T) (hm : NM (O 7 0) b T M) (hw : WMd T M) : ex (d + 1) 179 0 [some (vr 7 0 0), some (vi (nI b)), some (vi (nI K))] [] O = some (bI (anyFl T M K), O) := by
  have h6 := hT.2.2.2.1
  rw [sX7_hasFled_0]
  refine Exists.elim (lp_i (fun k (a : Bool) => ex (d + 1) 179 5 [some (vr 7 0 0), some (vi (nI b)), some (vi (nI K)), some (vi (bI a)), some (vi (nI k))] [] O) (fun k a => a = (List.range k).any fun k => K.testBit k && (M.2 k).2.2.2.isSome) (nK T) ?_ false (by simp)) ?_
  · intro k a hk ha
    refine ⟨a || (K.testBit k && (M.2 k).2.2.2.isSome), ?_, by rw [List.range_succ, List.any_append, ← ha]; simp⟩
    refine (sX7_hasFled_5 ..).trans ?_
    cases a with
    | true => simp (disch := omega) only [nI_ltI, nI_eq, nI_add, nI_clamp, ib_n, pk_mul, q_and, q_or, q_dn, q_shl, q_shlm, q_p1, if_true, if_false, ↓reduceIte, Option.bind_some, bI_0, bI_1, bI_01, b_or, Nat.not_lt_zero, Nat.zero_add, Bool.false_eq_true, Bool.true_eq_false, or_false, or_true, true_or, false_or, h.1.2.2.2, hk]; rfl
    | false =>
      simp (disch := omega) only [nI_ltI, nI_eq, nI_add, nI_clamp, ib_n, pk_mul, q_and, q_or, q_dn, q_shl, q_shlm, q_p1, if_true, if_false, ↓reduceIte, Option.bind_some, bI_0, bI_1, bI_01, b_or, Nat.not_lt_zero, Nat.zero_add, Bool.false_eq_true, Bool.true_eq_false, or_false, or_true, true_or, false_or, h.1.2.2.2, hk, q_bit, (hm.1 k hk).2.2]
      cases K.testBit k with
      | false => simp [bI]
      | true =>
        cases e : (M.2 k).2.2.2 with
        | none => simp [bI]
        | some x =>
          have hx := (hw.2 k).2.2.2 x e
          rw [if_neg (oI_sn (by omega))]
          simp [bI]
  · rintro a ⟨e, ha⟩
    refine e.trans ((sX7_hasFled_5 ..).trans ?_)
    simp (disch := omega) only [nI_ltI, nI_eq, nI_add, nI_clamp, ib_n, pk_mul, q_and, q_or, q_dn, q_shl, q_shlm, q_p1, if_true, if_false, ↓reduceIte, Option.bind_some, bI_0, bI_1, bI_01, b_or, Nat.not_lt_zero, Nat.zero_add, Bool.false_eq_true, Bool.true_eq_false, or_false, or_true, true_or, false_or, h.1.2.2.2, Nat.lt_irrefl]
    rw [ha]; rfl
theorem n_answerOf (d : Nat) {k s t : Nat} {M : Md_} (hk : k < nK T) (hs : s < nS T) (ht : t < 31) (h : MT (O 7 0) T) (hT : WT T) (hm : NM (O 7 0) 0 T M) (hw : WMd T M) : ex (d + 1) 194 0 [some (vr 7 0 0), some (vi (nI k)), some (vi (nI s)), some (vi (nI t))] [] O = some (oI (ans T M k s t), O) := by
  have h6 := hT.2.2.2.1
  have h4 := hT.2.2.1
  have h12 := hT.2.1
  have km := ((hm.1 k hk).1 s (by omega)).1
  rw [Nat.zero_add] at km
  rw [sX7_answerOf_0]
  simp (disch := omega) only [nI_ltI, nI_eq, nI_add, nI_clamp, ib_n, pk_mul, q_and, q_or, q_dn, q_shl, q_shlm, q_p1, if_true, if_false, ↓reduceIte, Option.bind_some, bI_0, bI_1, bI_01, b_or, Nat.not_lt_zero, Nat.zero_add, Bool.false_eq_true, Bool.true_eq_false, or_false, or_true, true_or, false_or, km]
  cases e : (M.2 k).1 s with
  | none => rw [if_pos rfl]; simp [ans, e]
  | some m =>
    have hmm := (hw.2 k).1 s m e
    have a1 := are_lt hT m
    rw [if_neg (oI_sn (by omega))]
    simp only [oI]
    simp (disch := omega) only [nI_ltI, nI_eq, nI_add, nI_clamp, ib_n, pk_mul, q_and, q_or, q_dn, q_shl, q_shlm, q_p1, if_true, if_false, ↓reduceIte, Option.bind_some, bI_0, bI_1, bI_01, b_or, Nat.not_lt_zero, Nat.zero_add, Bool.false_eq_true, Bool.true_eq_false, or_false, or_true, true_or, false_or, (h.2.2.1 m hmm).2.2, q_bitv]
    simp [ans, e, oI, bI]
theorem n_whoSay (d : Nat) {s t : Nat} {a : Option Nat} {M : Md_} (ha : ∀ j, a = some j → j < 2) (hs : s < nS T) (ht : t < 31) (h : MT (O 7 0) T) (hT : WT T) (hm : NM (O 7 0) 0 T M) (hw : WMd T M) : ex (d + 2) 196 0 [some (vr 7 0 0), some (vi (nI s)), some (vi (nI t)), some (vi (oI a))] [] O = some (nI (who T M s t a), O) := by
  have h6 := hT.2.2.2.1
  rw [sX7_whoSay_0]
  refine (lp_n (fun k x => ex (d + 2) 196 6 [some (vr 7 0 0), some (vi (nI s)), some (vi (nI t)), some (vi (oI a)), some (vi (nI x)), some (vi (nI k))] [] O) (fun k x => if (ans T M k s t == a) = true then x ||| 2 ^ k else x ||| 0) (nK T) (fun k x hk => ?_) 0).trans ?_
  · refine (sX7_whoSay_6 ..).trans ?_
    simp (disch := omega) only [nI_ltI, nI_eq, nI_add, nI_clamp, ib_n, pk_mul, q_and, q_or, q_dn, q_shl, q_shlm, q_p1, if_true, if_false, ↓reduceIte, Option.bind_some, bI_0, bI_1, bI_01, b_or, Nat.not_lt_zero, Nat.zero_add, Bool.false_eq_true, Bool.true_eq_false, or_false, or_true, true_or, false_or, h.1.2.2.2, n_answerOf d hk hs ht h hT hm hw, hk, oI_ans ha, beq_iff_eq]
    split <;> rfl
  · refine (sX7_whoSay_6 ..).trans ?_
    simp (disch := omega) only [nI_ltI, nI_eq, nI_add, nI_clamp, ib_n, pk_mul, q_and, q_or, q_dn, q_shl, q_shlm, q_p1, if_true, if_false, ↓reduceIte, Option.bind_some, bI_0, bI_1, bI_01, b_or, Nat.not_lt_zero, Nat.zero_add, Bool.false_eq_true, Bool.true_eq_false, or_false, or_true, true_or, false_or, h.1.2.2.2, Nat.lt_irrefl, itn_ms0]
    rfl
theorem n_chanceOf (d : Nat) {K : Nat} (hK : K < 2 ^ 31) (h : MT (O 7 0) T) (hT : WT T) : ex (d + 1) 188 0 [some (vr 7 0 0), some (vi (nI K))] [] O = some (nI (chc T K), O) := by
  have h6 := hT.2.2.2.1
  rw [sX7_chanceOf_0]
  refine (lp_n (fun k a => ex (d + 1) 188 4 [some (vr 7 0 0), some (vi (nI K)), some (vi (nI a)), some (vi (nI k))] [] O) (fun k a => a + (if K.testBit k = true then ch_ T k else 0)) (nK T) (fun k a hk => ?_) 0).trans ?_
  · refine (sX7_chanceOf_4 ..).trans ?_
    simp (disch := omega) only [nI_ltI, nI_eq, nI_add, nI_clamp, ib_n, pk_mul, q_and, q_or, q_dn, q_shl, q_shlm, q_p1, if_true, if_false, ↓reduceIte, Option.bind_some, bI_0, bI_1, bI_01, b_or, Nat.not_lt_zero, Nat.zero_add, Bool.false_eq_true, Bool.true_eq_false, or_false, or_true, true_or, false_or, h.1.2.2.2, (h.2.2.2.2 k hk).2.2.2.2, hk, q_bit]
    cases K.testBit k <;> simp
  · refine (sX7_chanceOf_4 ..).trans ?_
    simp (disch := omega) only [nI_ltI, nI_eq, nI_add, nI_clamp, ib_n, pk_mul, q_and, q_or, q_dn, q_shl, q_shlm, q_p1, if_true, if_false, ↓reduceIte, Option.bind_some, bI_0, bI_1, bI_01, b_or, Nat.not_lt_zero, Nat.zero_add, Bool.false_eq_true, Bool.true_eq_false, or_false, or_true, true_or, false_or, h.1.2.2.2, Nat.lt_irrefl, itn_sm]
    rfl
theorem n_allChances (d : Nat) (h : MT (O 7 0) T) (hT : WT T) : ex (d + 2) 189 0 [some (vr 7 0 0)] [] O = some (nI (chc T (2 ^ nK T - 1)), O) := by
  have h6 := hT.2.2.2.1
  have : 2 ^ nK T ≤ 2 ^ 6 := Nat.pow_le_pow_right (by decide) h6
  rw [sX7_allChances_0]
  simp (disch := omega) only [nI_ltI, nI_eq, nI_add, nI_clamp, ib_n, pk_mul, q_and, q_or, q_dn, q_shl, q_shlm, q_p1, if_true, if_false, ↓reduceIte, Option.bind_some, bI_0, bI_1, bI_01, b_or, Nat.not_lt_zero, Nat.zero_add, Bool.false_eq_true, Bool.true_eq_false, or_false, or_true, true_or, false_or, h.1.2.2.2]
  rw [n_chanceOf _ (by omega) h hT]
  rfl
theorem n_feared (d : Nat) {c : Bool} (h : MT (O 7 0) T) (hT : WT T) : ex (d + 1) 190 0 [some (vr 7 0 0), some (vi (bI c))] [] O = some (nI (frd T (if c then ms (nK T) (fun k => decide (0 < ch_ T k)) else 2 ^ nK T - 1)), O) := by
  have h6 := hT.2.2.2.1
  have h8 := hT.1
  rw [sX7_feared_0]
  refine Exists.elim (lp_i (fun k a => ex (d + 1) 190 4 [some (vr 7 0 0), some (vi (bI c)), some (vi (nI a)), some (vi (nI k))] [] O) (fun k a => a < 2 ^ nT T ∧ ∀ t, t < nT T → a.testBit t = (List.range k).any fun k => (!c || decide (0 < ch_ T k)) && fe_ T k == some t) (nK T) ?_ 0 ⟨Nat.two_pow_pos _, fun t _ => by simp⟩) ?_
  · intro k a hk hp
    have h9 := (hT.2.2.2.2.2.2.2.1 k).2.2
    have go : ∀ a', a' < 2 ^ nT T → (∀ t, t < nT T → a'.testBit t = (a.testBit t || ((!c || decide (0 < ch_ T k)) && fe_ T k == some t))) → a' < 2 ^ nT T ∧ ∀ t, t < nT T → a'.testBit t = (List.range (k + 1)).any fun k => (!c || decide (0 < ch_ T k)) && fe_ T k == some t := fun a' g1 g2 => ⟨g1, fun t ht => by rw [g2 t ht, hp.2 t ht, List.range_succ, List.any_append]; simp⟩
    cases hf : fe_ T k with
    | none =>
      refine ⟨a, ?_, go a hp.1 fun t ht => by rw [hf]; simp⟩
      refine (sX7_feared_4 ..).trans ?_
      simp (disch := omega) only [nI_ltI, nI_eq, nI_add, nI_clamp, ib_n, pk_mul, q_and, q_or, q_dn, q_shl, q_shlm, q_p1, if_true, if_false, ↓reduceIte, Option.bind_some, bI_0, bI_1, bI_01, b_or, Nat.not_lt_zero, Nat.zero_add, Bool.false_eq_true, Bool.true_eq_false, or_false, or_true, true_or, false_or, h.1.2.2.2, (h.2.2.2.2 k hk).2.2.1, hk, hf, Nat.or_zero]
    | some u =>
      have hu := hT.2.2.2.2.2.2.2.2 k u hf
      have hne := oI_sn (j := u) (by omega)
      have p1 : a ||| 2 ^ u < 2 ^ nT T := Nat.or_lt_two_pow hp.1 (Nat.pow_lt_pow_right (by decide) hu)
      have p2 : ∀ t, t < nT T → (a ||| 2 ^ u).testBit t = (a.testBit t || some u == some t) := fun t ht => by
        rw [Nat.testBit_or]
        by_cases e : u = t
        · subst e; simp
        · have : (some u == some t) = false := beq_false_of_ne (fun q => e (Option.some.inj q))
          rw [Nat.testBit_two_pow_of_ne e, this]
      cases c with
      | false =>
        refine ⟨a ||| 2 ^ u, ?_, go _ p1 fun t ht => by rw [hf, p2 t ht]; simp⟩
        refine (sX7_feared_4 ..).trans ?_
        simp (disch := omega) only [nI_ltI, nI_eq, nI_add, nI_clamp, ib_n, pk_mul, q_and, q_or, q_dn, q_shl, q_shlm, q_p1, if_true, if_false, ↓reduceIte, Option.bind_some, bI_0, bI_1, bI_01, b_or, Nat.not_lt_zero, Nat.zero_add, Bool.false_eq_true, Bool.true_eq_false, or_false, or_true, true_or, false_or, h.1.2.2.2, (h.2.2.2.2 k hk).2.2.1, hk, hf, hne, Nat.or_zero]
        simp only [oI]
        simp (disch := omega) only [nI_ltI, nI_eq, nI_add, nI_clamp, ib_n, pk_mul, q_and, q_or, q_dn, q_shl, q_shlm, q_p1, if_true, if_false, ↓reduceIte, Option.bind_some, bI_0, bI_1, bI_01, b_or, Nat.not_lt_zero, Nat.zero_add, Bool.false_eq_true, Bool.true_eq_false, or_false, or_true, true_or, false_or]
      | true =>
        by_cases hc : 0 < ch_ T k
        · refine ⟨a ||| 2 ^ u, ?_, go _ p1 fun t ht => by rw [hf, p2 t ht]; simp [hc]⟩
          refine (sX7_feared_4 ..).trans ?_
          simp (disch := omega) only [nI_ltI, nI_eq, nI_add, nI_clamp, ib_n, pk_mul, q_and, q_or, q_dn, q_shl, q_shlm, q_p1, if_true, if_false, ↓reduceIte, Option.bind_some, bI_0, bI_1, bI_01, b_or, Nat.not_lt_zero, Nat.zero_add, Bool.false_eq_true, Bool.true_eq_false, or_false, or_true, true_or, false_or, h.1.2.2.2, (h.2.2.2.2 k hk).2.2.1, hk, hf, hne, Nat.or_zero, (h.2.2.2.2 k hk).2.2.2.2, hc]
          simp only [oI]
          simp (disch := omega) only [nI_ltI, nI_eq, nI_add, nI_clamp, ib_n, pk_mul, q_and, q_or, q_dn, q_shl, q_shlm, q_p1, if_true, if_false, ↓reduceIte, Option.bind_some, bI_0, bI_1, bI_01, b_or, Nat.not_lt_zero, Nat.zero_add, Bool.false_eq_true, Bool.true_eq_false, or_false, or_true, true_or, false_or]
        · refine ⟨a, ?_, go _ hp.1 fun t ht => by simp [hc]⟩
          refine (sX7_feared_4 ..).trans ?_
          simp (disch := omega) only [nI_ltI, nI_eq, nI_add, nI_clamp, ib_n, pk_mul, q_and, q_or, q_dn, q_shl, q_shlm, q_p1, if_true, if_false, ↓reduceIte, Option.bind_some, bI_0, bI_1, bI_01, b_or, Nat.not_lt_zero, Nat.zero_add, Bool.false_eq_true, Bool.true_eq_false, or_false, or_true, true_or, false_or, h.1.2.2.2, (h.2.2.2.2 k hk).2.2.1, hk, hf, hne, Nat.or_zero, (h.2.2.2.2 k hk).2.2.2.2, hc]
  · rintro a ⟨e, ha, hb⟩
    refine e.trans ((sX7_feared_4 ..).trans ?_)
    simp (disch := omega) only [nI_ltI, nI_eq, nI_add, nI_clamp, ib_n, pk_mul, q_and, q_or, q_dn, q_shl, q_shlm, q_p1, if_true, if_false, ↓reduceIte, Option.bind_some, bI_0, bI_1, bI_01, b_or, Nat.not_lt_zero, Nat.zero_add, Bool.false_eq_true, Bool.true_eq_false, or_false, or_true, true_or, false_or, h.1.2.2.2, Nat.lt_irrefl]
    unfold frd
    congr 3
    refine ms_eq ha (fun t ht => ?_)
    rw [hb t ht, Bool.eq_iff_iff]
    simp only [List.any_eq_true, List.mem_range]
    refine exists_congr fun k => and_congr_right fun hk => ?_
    cases c with
    | false => simp [Nat.testBit_two_pow_sub_one, hk]
    | true => simp [ms_bit, hk]
end
