/-! THE MODEL'S MINDS. -/
section
/-- only a stretch of the state's row is changed -/
def NX (a l : Nat) (O O' : Mem_) : Prop := Ro 7 0 O O' ∧ ∀ p q, ¬ (p = 28 ∧ a ≤ q ∧ q < a + l) → O' 7 0 p q = O 7 0 p q
theorem NX.rfl {a l : Nat} {O : Mem_} : NX a l O O := ⟨Ro.rfl, fun _ _ _ => Eq.refl _⟩
theorem NX.trans {a l : Nat} {O O' O2 : Mem_} (h : NX a l O O') (g : NX a l O' O2) : NX a l O O2 := ⟨h.1.trans g.1, fun p q z => (g.2 p q z).trans (h.2 p q z)⟩
theorem NX.up {a l j : Nat} {v : Int32} {O O' : Mem_} (h : NX a l O O') (hj : a ≤ j ∧ j < a + l) : NX a l O (up O' 7 0 28 j v) := ⟨h.1.up, fun p q z => (up_ne (fun e => z ⟨e.1, by omega, by omega⟩)).trans (h.2 p q z)⟩
theorem NX.wide {a l a' l' : Nat} {O O' : Mem_} (h : NX a l O O') (h1 : a' ≤ a) (h2 : a + l ≤ a' + l') : NX a' l' O O' := ⟨h.1, fun p q z => h.2 p q (fun e => z ⟨e.1, by omega, by omega⟩)⟩
theorem MT.nx {a l : Nat} {O O' : Mem_} {T : Td_} (h : NX a l O O') (g : MT (O 7 0) T) : MT (O' 7 0) T := by
  have e : ∀ p q, p ≠ 28 → O' 7 0 p q = O 7 0 p q := fun p q z => h.2 p q (fun e => z e.1)
  refine ⟨⟨?_, ?_, ?_, ?_⟩, fun t ht => ?_, fun m hm => ⟨?_, ?_, ?_⟩, fun s hs => ?_, fun k hk => ⟨?_, ?_, ?_, ?_, ?_⟩⟩ <;> rw [e _ _ (by decide)]
  · exact g.1.1
  · exact g.1.2.1
  · exact g.1.2.2.1
  · exact g.1.2.2.2
  · exact g.2.1 t ht
  · exact (g.2.2.1 m hm).1
  · exact (g.2.2.1 m hm).2.1
  · exact (g.2.2.1 m hm).2.2
  · exact g.2.2.2.1 s hs
  · exact (g.2.2.2.2 k hk).1
  · exact (g.2.2.2.2 k hk).2.1
  · exact (g.2.2.2.2 k hk).2.2.1
  · exact (g.2.2.2.2 k hk).2.2.2.1
  · exact (g.2.2.2.2 k hk).2.2.2.2
/-- a kind's cells, from a on -/
def KN (R : Nat → Nat → Int32) (a : Nat) (μ : Mi_) : Prop := (∀ s, s < 4 → R 28 (a + s) = oI (μ.1 s) ∧ R 28 (a + 4 + s) = nI (μ.2.1 s)) ∧ R 28 (a + 8) = oI μ.2.2.1 ∧ R 28 (a + 9) = oI μ.2.2.2
theorem KN.nx {a l b : Nat} {O O' : Mem_} {μ : Mi_} (h : NX a l O O') (hd : b + 10 ≤ a ∨ a + l ≤ b) (g : KN (O 7 0) b μ) : KN (O' 7 0) b μ := by
  refine ⟨fun s hs => ⟨?_, ?_⟩, ?_, ?_⟩ <;> rw [h.2 _ _ (by omega)]
  · exact (g.1 s hs).1
  · exact (g.1 s hs).2
  · exact g.2.1
  · exact g.2.2
/-- what fits by the things that it was said of, and those that it was denied of -/
def fitSN (T : Td_) (S N : Nat) : Nat := ms (nM T) fun m => dn S (are T m) == 0 && (N &&& are T m == 0)
section
variable {T : Td_} {O : Mem_}
theorem b0 (x : Nat) : (x == 0) = decide (x = 0) := by rw [Bool.eq_iff_iff]; simp
theorem n_fitsIn (d : Nat) {b s m S N : Nat} (hb : b ≤ 140) (hs : s < 4) (hm : m < nM T) (h : MT (O 7 0) T) (hT : WT T) (h1 : O 7 0 28 (b + 60 + s) = nI S) (h2 : O 7 0 28 (b + 64 + s) = nI N) (hS : S < 2 ^ 31) (hN : N < 2 ^ 31) : ex (d + 1) 154 0 [some (vr 7 0 0), some (vi (nI b)), some (vi (nI s)), some (vi (nI m))] [] O = some (bI (dn S (are T m) == 0 && (N &&& are T m == 0)), O) := by
  have h12 := hT.2.1
  have hd := dn_le S (are T m)
  have ha : N &&& are T m ≤ N := Nat.and_le_left
  rw [sX7_fitsIn_0]
  simp (disch := omega) only [nI_ltI, nI_eq, nI_add, nI_clamp, ib_n, pk_mul, q_and, q_or, q_dn, q_shl, q_shlm, q_p1, if_true, if_false, ↓reduceIte, Option.bind_some, bI_0, bI_1, bI_01, b_or, Nat.not_lt_zero, Nat.zero_add, Bool.false_eq_true, Bool.true_eq_false, or_false, or_true, true_or, false_or, h1, h2, (h.2.2.1 m hm).2.2]
  simp only [b0]
  by_cases e1 : dn S (are T m) = 0 <;> by_cases e2 : N &&& are T m = 0 <;> simp [e1, e2, bI]
theorem n_allThatFit (d : Nat) {b s S N : Nat} (hb : b ≤ 140) (hs : s < 4) (h : MT (O 7 0) T) (hT : WT T) (h1 : O 7 0 28 (b + 60 + s) = nI S) (h2 : O 7 0 28 (b + 64 + s) = nI N) (hS : S < 2 ^ 31) (hN : N < 2 ^ 31) : ex (d + 2) 155 0 [some (vr 7 0 0), some (vi (nI b)), some (vi (nI s))] [] O = some (nI (fitSN T S N), O) := by
  have h12 := hT.2.1
  rw [sX7_allThatFit_0]
  refine (lp_n (fun m a => ex (d + 2) 155 5 [some (vr 7 0 0), some (vi (nI b)), some (vi (nI s)), some (vi (nI a)), some (vi (nI m))] [] O) (fun m a => if (dn S (are T m) == 0 && (N &&& are T m == 0)) = true then a ||| 2 ^ m else a ||| 0) (nM T) (fun m a hm => ?_) 0).trans ?_
  · refine (sX7_allThatFit_5 ..).trans ?_
    simp (disch := omega) only [nI_ltI, nI_eq, nI_add, nI_clamp, ib_n, pk_mul, q_and, q_or, q_dn, q_shl, q_shlm, q_p1, if_true, if_false, ↓reduceIte, Option.bind_some, bI_0, bI_1, bI_01, b_or, Nat.not_lt_zero, Nat.zero_add, Bool.false_eq_true, Bool.true_eq_false, or_false, or_true, true_or, false_or, h.1.2.1, hm, n_fitsIn d hb hs hm h hT h1 h2 hS hN]
    cases (dn S (are T m) == 0 && (N &&& are T m == 0)) <;> simp
  · refine (sX7_allThatFit_5 ..).trans ?_
    simp (disch := omega) only [nI_ltI, nI_eq, nI_add, nI_clamp, ib_n, pk_mul, q_and, q_or, q_dn, q_shl, q_shlm, q_p1, if_true, if_false, ↓reduceIte, Option.bind_some, bI_0, bI_1, bI_01, b_or, Nat.not_lt_zero, Nat.zero_add, Bool.false_eq_true, Bool.true_eq_false, or_false, or_true, true_or, false_or, h.1.2.1, Nat.lt_irrefl, itn_ms0]
    rfl
theorem n_proudLooks (d : Nat) {a s B w : Nat} {th : Option Nat} {ag : Bool} (ha : a + 10 ≤ 210) (hs : s < 4) (hB : B < 2 ^ 31) (b1 : ∀ m, th = some m → m < 2 ^ 31) (hw : w < 2) (h : MT (O 7 0) T) (hT : WT T) (h1 : O 7 0 28 (a + s) = oI th) (h2 : O 7 0 28 (a + 4 + s) = nI w) (hag : th = none → ag = false) : ex (d + 4) 158 0 [some (vr 7 0 0), some (vi (nI a)), some (vi (nI s)), some (vi (nI B)), some (vi (bI ag))] [] O = some (nI 0, (let w' := if th.isSome && ag then w + 1 else w; if th.isNone || decide (2 ≤ w') then up (up O 7 0 28 (a + s) (oI (plainest T B))) 7 0 28 (a + 4 + s) (nI 0) else up O 7 0 28 (a + 4 + s) (nI w'))) := by
  have k65 : ∀ (O : Mem_), MT (O 7 0) T → ex (d + 4) 158 65 [some (vr 7 0 0), some (vi (nI a)), some (vi (nI s)), some (vi (nI B)), none, some (vi (nI 1))] [] O = some (nI 0, up (up O 7 0 28 (a + s) (oI (plainest T B))) 7 0 28 (a + 4 + s) (nI 0)) := by
    intro O h
    rw [sX7_proudLooks_65]
    simp (disch := omega) only [nI_ltI, nI_eq, nI_add, nI_clamp, ib_n, pk_mul, q_and, q_or, q_dn, q_shl, q_shlm, q_p1, if_true, if_false, ↓reduceIte, Option.bind_some, bI_0, bI_1, bI_01, b_or, Nat.not_lt_zero, Nat.zero_add, Bool.false_eq_true, Bool.true_eq_false, or_false, or_true, true_or, false_or]
    rw [n_plainest _ hB h hT]
    simp (disch := omega) only [nI_ltI, nI_eq, nI_add, nI_clamp, ib_n, pk_mul, q_and, q_or, q_dn, q_shl, q_shlm, q_p1, if_true, if_false, ↓reduceIte, Option.bind_some, bI_0, bI_1, bI_01, b_or, Nat.not_lt_zero, Nat.zero_add, Bool.false_eq_true, Bool.true_eq_false, or_false, or_true, true_or, false_or]
    rfl
  rw [sX7_proudLooks_0]
  simp (disch := omega) only [nI_ltI, nI_eq, nI_add, nI_clamp, ib_n, pk_mul, q_and, q_or, q_dn, q_shl, q_shlm, q_p1, if_true, if_false, ↓reduceIte, Option.bind_some, bI_0, bI_1, bI_01, b_or, Nat.not_lt_zero, Nat.zero_add, Bool.false_eq_true, Bool.true_eq_false, or_false, or_true, true_or, false_or, h1]
  cases th with
  | none =>
    rw [if_pos rfl, sX7_proudLooks_18]
    simp (disch := omega) only [nI_ltI, nI_eq, nI_add, nI_clamp, ib_n, pk_mul, q_and, q_or, q_dn, q_shl, q_shlm, q_p1, if_true, if_false, ↓reduceIte, Option.bind_some, bI_0, bI_1, bI_01, b_or, Nat.not_lt_zero, Nat.zero_add, Bool.false_eq_true, Bool.true_eq_false, or_false, or_true, true_or, false_or]
    rw [k65 O h]
    rfl
  | some x =>
    rw [if_neg (oI_sn (b1 x rfl)), sX7_proudLooks_18]
    simp (disch := omega) only [nI_ltI, nI_eq, nI_add, nI_clamp, ib_n, pk_mul, q_and, q_or, q_dn, q_shl, q_shlm, q_p1, if_true, if_false, ↓reduceIte, Option.bind_some, bI_0, bI_1, bI_01, b_or, Nat.not_lt_zero, Nat.zero_add, Bool.false_eq_true, Bool.true_eq_false, or_false, or_true, true_or, false_or]
    cases ag with
    | false =>
      simp (disch := omega) only [nI_ltI, nI_eq, nI_add, nI_clamp, ib_n, pk_mul, q_and, q_or, q_dn, q_shl, q_shlm, q_p1, if_true, if_false, ↓reduceIte, Option.bind_some, bI_0, bI_1, bI_01, b_or, Nat.not_lt_zero, Nat.zero_add, Bool.false_eq_true, Bool.true_eq_false, or_false, or_true, true_or, false_or]
      rw [sX7_proudLooks_65]
      simp (disch := omega) only [nI_ltI, nI_eq, nI_add, nI_clamp, ib_n, pk_mul, q_and, q_or, q_dn, q_shl, q_shlm, q_p1, if_true, if_false, ↓reduceIte, Option.bind_some, bI_0, bI_1, bI_01, b_or, Nat.not_lt_zero, Nat.zero_add, Bool.false_eq_true, Bool.true_eq_false, or_false, or_true, true_or, false_or]
      have hw2 : ¬ 2 ≤ w := by omega
      simp [hw2, up_same h2]
    | true =>
      simp (disch := omega) only [nI_ltI, nI_eq, nI_add, nI_clamp, ib_n, pk_mul, q_and, q_or, q_dn, q_shl, q_shlm, q_p1, if_true, if_false, ↓reduceIte, Option.bind_some, bI_0, bI_1, bI_01, b_or, Nat.not_lt_zero, Nat.zero_add, Bool.false_eq_true, Bool.true_eq_false, or_false, or_true, true_or, false_or, h2, up_eq]
      by_cases hw2 : 2 ≤ w + 1
      · have e : w = 1 := by omega
        subst e
        simp (disch := omega) only [nI_ltI, nI_eq, nI_add, nI_clamp, ib_n, pk_mul, q_and, q_or, q_dn, q_shl, q_shlm, q_p1, if_true, if_false, ↓reduceIte, Option.bind_some, bI_0, bI_1, bI_01, b_or, Nat.not_lt_zero, Nat.zero_add, Bool.false_eq_true, Bool.true_eq_false, or_false, or_true, true_or, false_or]
        rw [k65 _ (h.nx (NX.rfl.up (a := a) (l := 10) (by omega)))]
        simp only [Option.isSome_some, Bool.and_true, if_true, Option.isNone_some, Bool.false_or, Nat.reduceAdd, Nat.le_refl, decide_true]
        rw [up_comm _ _ _ (by omega), up_up, up_comm _ _ _ (by omega)]
      · have e : w = 0 := by omega
        subst e
        simp (disch := omega) only [nI_ltI, nI_eq, nI_add, nI_clamp, ib_n, pk_mul, q_and, q_or, q_dn, q_shl, q_shlm, q_p1, if_true, if_false, ↓reduceIte, Option.bind_some, bI_0, bI_1, bI_01, b_or, Nat.not_lt_zero, Nat.zero_add, Bool.false_eq_true, Bool.true_eq_false, or_false, or_true, true_or, false_or, sX7_proudLooks_65]
        simp [sX7_proudLooks_65]
theorem fitg_bit {x t : Nat} {so : Bool} (hx : x < nM T) (ht : t < nT T) : (fitg T t so).testBit x = ((are T x).testBit t == so) := by
  have e1 : (are T x).testBit t = isA T x t := by rw [are, ms_bit, decide_eq_true ht, Bool.true_and]
  have e2 : (isIt T t).testBit x = isA T x t := by rw [isIt, ms_bit, decide_eq_true hx, Bool.true_and]
  rw [e1]
  cases so with
  | true => rw [fitg, if_pos rfl, e2]; simp
  | false =>
    rw [fitg, if_neg (by decide), dn_bit, e2, Nat.testBit_two_pow_sub_one, decide_eq_true hx]
    simp
theorem dn_or (a b c : Nat) : dn (a ||| b) c = 0 ↔ dn a c = 0 ∧ dn b c = 0 := by
  have key : ∀ x : Nat, x = 0 ↔ ∀ i, x.testBit i = false := fun x => ⟨fun h i => by rw [h, Nat.zero_testBit], fun h => Nat.eq_of_testBit_eq (fun i => by rw [h i, Nat.zero_testBit])⟩
  rw [key, key (dn a c), key (dn b c)]
  simp only [dn_bit, Nat.testBit_or]
  constructor
  · intro h
    refine ⟨fun i => ?_, fun i => ?_⟩ <;> have := h i <;> revert this <;> cases a.testBit i <;> cases b.testBit i <;> cases c.testBit i <;> decide
  · intro ⟨h1, h2⟩ i
    have := h1 i
    have := h2 i
    revert this
    revert this
    cases a.testBit i <;> cases b.testBit i <;> cases c.testBit i <;> decide
theorem dn_pow (t c : Nat) : dn (2 ^ t) c = 0 ↔ c.testBit t = true := by
  constructor
  · intro h
    have := congrArg (fun z => z.testBit t) h
    simp only [dn_bit, Nat.testBit_two_pow_self, Nat.zero_testBit, Bool.true_and] at this
    cases hc : c.testBit t
    · rw [hc] at this; cases this
    · rfl
  · intro h
    apply Nat.eq_of_testBit_eq
    intro i
    rw [dn_bit, Nat.zero_testBit]
    by_cases e : t = i
    · subst e; rw [h, Bool.not_true, Bool.and_false]
    · rw [Nat.testBit_two_pow_of_ne e, Bool.false_and]
theorem and_pow (t c : Nat) : 2 ^ t &&& c = 0 ↔ c.testBit t = false := by
  constructor
  · intro h
    have := congrArg (fun z => z.testBit t) h
    simpa [Nat.testBit_and, Nat.testBit_two_pow_self] using this
  · intro h
    apply Nat.eq_of_testBit_eq
    intro i
    rw [Nat.testBit_and, Nat.zero_testBit]
    by_cases e : t = i
    · subst e; rw [h, Bool.and_false]
    · rw [Nat.testBit_two_pow_of_ne e, Bool.false_and]
theorem or_and0 (a b c : Nat) : (a ||| b) &&& c = 0 ↔ a &&& c = 0 ∧ b &&& c = 0 := by
  rw [Nat.and_or_distrib_right, Nat.or_eq_zero_iff]
theorem fitSN_t {S N t : Nat} (ht : t < nT T) : fitSN T (S ||| 2 ^ t) N = fitSN T S N &&& fitg T t true := by
  apply Nat.eq_of_testBit_eq
  intro m
  rw [Nat.testBit_and, fitSN, fitSN, ms_bit, ms_bit]
  by_cases hm : m < nM T
  · rw [fitg_bit hm ht, decide_eq_true hm]
    rw [Bool.eq_iff_iff]
    simp only [Bool.true_and, Bool.and_eq_true, beq_iff_eq, dn_or, dn_pow]
    constructor
    · rintro ⟨⟨a, b⟩, c⟩; exact ⟨⟨a, c⟩, b⟩
    · rintro ⟨⟨a, c⟩, b⟩; exact ⟨⟨a, b⟩, c⟩
  · rw [decide_eq_false hm]; simp
theorem fitSN_f {S N t : Nat} (ht : t < nT T) : fitSN T S (N ||| 2 ^ t) = fitSN T S N &&& fitg T t false := by
  apply Nat.eq_of_testBit_eq
  intro m
  rw [Nat.testBit_and, fitSN, fitSN, ms_bit, ms_bit]
  by_cases hm : m < nM T
  · rw [fitg_bit hm ht, decide_eq_true hm]
    rw [Bool.eq_iff_iff]
    simp only [Bool.true_and, Bool.and_eq_true, beq_iff_eq, or_and0, and_pow]
    constructor
    · rintro ⟨a, b, c⟩; exact ⟨⟨a, b⟩, c⟩
    · rintro ⟨⟨a, b⟩, c⟩; exact ⟨a, b, c⟩
  · rw [decide_eq_false hm]; simp
theorem chs_lt {f k s : Nat} {th : Nat → Option Nat} (hT : WT T) (hf : f < 2 ^ nM T) : chs T f k s th < 2 ^ nM T := by
  refine Nat.lt_of_le_of_lt (Nat.le_of_testBit fun i hi => ?_) hf
  rw [chs, ms_bit] at hi
  simp only [Bool.and_eq_true] at hi
  exact hi.2.1.1
theorem n_looks (d : Nat) {b k s t S N : Nat} {so : Bool} {μ : Mi_} (hb : b ≤ 140) (hk : k < nK T) (hs : s < nS T) (ht : t < nT T) (h : MT (O 7 0) T) (hT : WT T) (h1 : O 7 0 28 (b + 60 + s) = nI S) (h2 : O 7 0 28 (b + 64 + s) = nI N) (hS : S < 2 ^ 31) (hN : N < 2 ^ 31) (hm : KN (O 7 0) (b + 10 * k) μ) (hw : WMi T μ) : ex (d + 5) 159 0 [some (vr 7 0 0), some (vi (nI b)), some (vi (nI k)), some (vi (nI s)), some (vi (nI t)), some (vi (bI so))] [] O = some (nI 0, up (up (up O 7 0 28 (b + 10 * k + s) (oI (thk T k s t so (fitSN T S N) μ).1)) 7 0 28 (b + 10 * k + 4 + s) (nI (thk T k s t so (fitSN T S N) μ).2)) 7 0 28 (b + 10 * k + 8) (oI ((thk T k s t so (fitSN T S N) μ).1 <|> μ.2.2.1))) := by
  have h6 := hT.2.2.2.1
  have h4 := hT.2.2.1
  have h12 := hT.2.1
  have h8 := hT.1
  have hso := (hT.2.2.2.2.2.2.2.1 k).1
  have hf : fitSN T S N < 2 ^ nM T := ms_lt _ _
  have p12 : 2 ^ nM T ≤ 2 ^ 12 := Nat.pow_le_pow_right (by decide) h12
  have hcl := chs_lt (k := k) (s := s) (th := μ.1) hT hf
  have hc := can_lt hT k
  have hfc : fitSN T S N &&& can T k < 4096 := Nat.lt_of_le_of_lt Nat.and_le_left (by omega)
  obtain ⟨wf1, wf2⟩ := thk_wf (k := k) (s := s) (t := t) (so := so) (f := fitSN T S N) hw
  have m1 := (hm.1 s (by omega)).1
  have m2 := (hm.1 s (by omega)).2
  have m3 := hm.2.1
  have wsm := hw.2.1 s
  rw [sX7_looks_0, n_allThatFit _ hb (by omega) h hT h1 h2 hS hN]
  simp only [Option.bind_some]
  rw [n_canThink _ hk h hT]
  simp (disch := omega) only [nI_ltI, nI_eq, nI_add, nI_clamp, ib_n, pk_mul, q_and, q_or, q_dn, q_shl, q_shlm, q_p1, if_true, if_false, ↓reduceIte, Option.bind_some, bI_0, bI_1, bI_01, b_or, Nat.not_lt_zero, Nat.zero_add, Bool.false_eq_true, Bool.true_eq_false, or_false, or_true, true_or, false_or]
  -- the others' thoughts
  have key : ex (d + 5) 159 25 [some (vr 7 0 0), none, some (vi (nI k)), some (vi (nI s)), some (vi (nI t)), some (vi (bI so)), some (vi (nI (b + 10 * k))), some (vi (nI (fitSN T S N &&& can T k))), some (vi (nI 0))] [] O = ex (d + 5) 159 25 [some (vr 7 0 0), none, some (vi (nI k)), some (vi (nI s)), some (vi (nI t)), some (vi (bI so)), some (vi (nI (b + 10 * k))), some (vi (nI (chs T (fitSN T S N) k s μ.1))), some (vi (nI (nS T)))] [] O := by
    refine Exists.elim (lp_i (fun q a => ex (d + 5) 159 25 [some (vr 7 0 0), none, some (vi (nI k)), some (vi (nI s)), some (vi (nI t)), some (vi (bI so)), some (vi (nI (b + 10 * k))), some (vi (nI a)), some (vi (nI q))] [] O) (fun q a => a < 4096 ∧ ∀ m, m < 12 → a.testBit m = (((fitSN T S N).testBit m && (can T k).testBit m) && !(ul_ T k && (List.range q).any fun q => q != s && μ.1 q == some m))) (nS T) ?_ (fitSN T S N &&& can T k) ⟨hfc, fun m _ => by rw [Nat.testBit_and]; simp⟩) ?_
    · intro q a hq ha
      have mq := (hm.1 q (by omega)).1
      cases hu : ul_ T k with
      | false =>
        refine ⟨a, ?_, ha.1, fun m hm => ?_⟩
        · refine (sX7_looks_25 ..).trans ?_
          simp (disch := omega) only [nI_ltI, nI_eq, nI_add, nI_clamp, ib_n, pk_mul, q_and, q_or, q_dn, q_shl, q_shlm, q_p1, if_true, if_false, ↓reduceIte, Option.bind_some, bI_0, bI_1, bI_01, b_or, Nat.not_lt_zero, Nat.zero_add, Bool.false_eq_true, Bool.true_eq_false, or_false, or_true, true_or, false_or, h.1.2.2.1, hq, (h.2.2.2.2 k hk).2.2.2.1, hu, q_m1]
        · rw [ha.2 m hm, hu]; simp
      | true =>
        by_cases hqs : q = s
        · subst hqs
          refine ⟨a, ?_, ha.1, fun m hm => ?_⟩
          · refine (sX7_looks_25 ..).trans ?_
            simp (disch := omega) only [nI_ltI, nI_eq, nI_add, nI_clamp, ib_n, pk_mul, q_and, q_or, q_dn, q_shl, q_shlm, q_p1, if_true, if_false, ↓reduceIte, Option.bind_some, bI_0, bI_1, bI_01, b_or, Nat.not_lt_zero, Nat.zero_add, Bool.false_eq_true, Bool.true_eq_false, or_false, or_true, true_or, false_or, h.1.2.2.1, hq, (h.2.2.2.2 k hk).2.2.2.1, hu, q_m1]
          · rw [ha.2 m hm, List.range_succ, List.any_append, hu]
            simp
        · cases hth : μ.1 q with
          | none =>
            refine ⟨a, ?_, ha.1, fun m hm => ?_⟩
            · refine (sX7_looks_25 ..).trans ?_
              simp (disch := omega) only [nI_ltI, nI_eq, nI_add, nI_clamp, ib_n, pk_mul, q_and, q_or, q_dn, q_shl, q_shlm, q_p1, if_true, if_false, ↓reduceIte, Option.bind_some, bI_0, bI_1, bI_01, b_or, Nat.not_lt_zero, Nat.zero_add, Bool.false_eq_true, Bool.true_eq_false, or_false, or_true, true_or, false_or, h.1.2.2.1, hq, (h.2.2.2.2 k hk).2.2.2.1, hu, q_m1, hqs, mq, hth]
            · rw [ha.2 m hm, List.range_succ, List.any_append, hu]
              simp [hth]
          | some x =>
            have hx := hw.1 q x hth
            have hn := oI_sn (j := x) (by omega)
            refine ⟨dn a (2 ^ x), ?_, Nat.lt_of_le_of_lt (dn_le _ _) ha.1, fun m hm => ?_⟩
            · refine (sX7_looks_25 ..).trans ?_
              simp (disch := omega) only [nI_ltI, nI_eq, nI_add, nI_clamp, ib_n, pk_mul, q_and, q_or, q_dn, q_shl, q_shlm, q_p1, if_true, if_false, ↓reduceIte, Option.bind_some, bI_0, bI_1, bI_01, b_or, Nat.not_lt_zero, Nat.zero_add, Bool.false_eq_true, Bool.true_eq_false, or_false, or_true, true_or, false_or, h.1.2.2.1, hq, (h.2.2.2.2 k hk).2.2.2.1, hu, q_m1, hqs, mq, hth, hn]
              simp only [oI]
              simp (disch := omega) only [nI_ltI, nI_eq, nI_add, nI_clamp, ib_n, pk_mul, q_and, q_or, q_dn, q_shl, q_shlm, q_p1, if_true, if_false, ↓reduceIte, Option.bind_some, bI_0, bI_1, bI_01, b_or, Nat.not_lt_zero, Nat.zero_add, Bool.false_eq_true, Bool.true_eq_false, or_false, or_true, true_or, false_or]
            · rw [dn_bit, ha.2 m hm, List.range_succ, List.any_append, hu]
              by_cases hxm : x = m
              · subst hxm; simp [hth, hqs]
              · have hb2 : (x == m) = false := beq_false_of_ne hxm
                simp [hth, Nat.testBit_two_pow_of_ne hxm, hb2]
    · rintro a ⟨e, ha, hb⟩
      refine e.trans ?_
      have e2 : a = chs T (fitSN T S N) k s μ.1 := ms_eq (n := 12) ha (fun m hm => by rw [hb m hm, taken])
      rw [e2]
  rw [key]
  generalize hC : chs T (fitSN T S N) k s μ.1 = C at *
  have hC12 : C < 2 ^ 31 := by omega
  -- the tail
  have fin : ∀ (O1 : Mem_), O1 = up (up O 7 0 28 (b + 10 * k + s) (oI (thk T k s t so (fitSN T S N) μ).1)) 7 0 28 (b + 10 * k + 4 + s) (nI (thk T k s t so (fitSN T S N) μ).2) → ex (d + 5) 159 274 [some (vr 7 0 0), none, none, some (vi (nI s)), none, none, some (vi (nI (b + 10 * k)))] [] O1 = some (nI 0, up (up (up O 7 0 28 (b + 10 * k + s) (oI (thk T k s t so (fitSN T S N) μ).1)) 7 0 28 (b + 10 * k + 4 + s) (nI (thk T k s t so (fitSN T S N) μ).2)) 7 0 28 (b + 10 * k + 8) (oI ((thk T k s t so (fitSN T S N) μ).1 <|> μ.2.2.1))) := by
    intro O1 e
    subst e
    rw [sX7_looks_274]
    simp (disch := omega) only [nI_ltI, nI_eq, nI_add, nI_clamp, ib_n, pk_mul, q_and, q_or, q_dn, q_shl, q_shlm, q_p1, if_true, if_false, ↓reduceIte, Option.bind_some, bI_0, bI_1, bI_01, b_or, Nat.not_lt_zero, Nat.zero_add, Bool.false_eq_true, Bool.true_eq_false, or_false, or_true, true_or, false_or, up_ne, up_eq, m3]
    cases e : (thk T k s t so (fitSN T S N) μ).1 with
    | none => rw [if_pos rfl]; rfl
    | some x => rw [if_neg (oI_sn (by have := wf1 x e; omega))]; rfl
  have up3 : ∀ (v : Int32), up (up O 7 0 28 (b + 10 * k + s) v) 7 0 28 (b + 10 * k + 4 + s) (nI (μ.2.1 s)) = up O 7 0 28 (b + 10 * k + s) v := fun v => up_same (by rw [up_ne (by omega), m2])
  refine (sX7_looks_25 ..).trans ?_
  have hcase : so_ T k = 0 ∨ so_ T k = 1 ∨ so_ T k = 2 ∨ so_ T k = 3 := by omega
  have k267 : ∀ v, thk T k s t so (fitSN T S N) μ = (plainest T C, v) → v = μ.2.1 s → ex (d + 5) 159 267 [some (vr 7 0 0), none, none, some (vi (nI s)), none, none, some (vi (nI (b + 10 * k))), some (vi (nI C))] [vi (nI (b + 10 * k + s)), vr 7 0 28] O = some (nI 0, up (up (up O 7 0 28 (b + 10 * k + s) (oI (thk T k s t so (fitSN T S N) μ).1)) 7 0 28 (b + 10 * k + 4 + s) (nI (thk T k s t so (fitSN T S N) μ).2)) 7 0 28 (b + 10 * k + 8) (oI ((thk T k s t so (fitSN T S N) μ).1 <|> μ.2.2.1))) := by
    intro v hv hv2
    rw [sX7_looks_267, n_plainest _ hC12 h hT]
    simp (disch := omega) only [nI_ltI, nI_eq, nI_add, nI_clamp, ib_n, pk_mul, q_and, q_or, q_dn, q_shl, q_shlm, q_p1, if_true, if_false, ↓reduceIte, Option.bind_some, bI_0, bI_1, bI_01, b_or, Nat.not_lt_zero, Nat.zero_add, Bool.false_eq_true, Bool.true_eq_false, or_false, or_true, true_or, false_or]
    refine fin _ ?_
    rw [hv, hv2, up3]
  rcases hcase with e | e | e | e
  · simp (disch := omega) only [nI_ltI, nI_eq, nI_add, nI_clamp, ib_n, pk_mul, q_and, q_or, q_dn, q_shl, q_shlm, q_p1, if_true, if_false, ↓reduceIte, Option.bind_some, bI_0, bI_1, bI_01, b_or, Nat.not_lt_zero, Nat.zero_add, Bool.false_eq_true, Bool.true_eq_false, or_false, or_true, true_or, false_or, h.1.2.2.1, Nat.lt_irrefl, (h.2.2.2.2 k hk).1, e, m1, m3]
    exact k267 _ (by rw [thk_0 e, hC]) rfl
  · simp (disch := omega) only [nI_ltI, nI_eq, nI_add, nI_clamp, ib_n, pk_mul, q_and, q_or, q_dn, q_shl, q_shlm, q_p1, if_true, if_false, ↓reduceIte, Option.bind_some, bI_0, bI_1, bI_01, b_or, Nat.not_lt_zero, Nat.zero_add, Bool.false_eq_true, Bool.true_eq_false, or_false, or_true, true_or, false_or, h.1.2.2.1, Nat.lt_irrefl, (h.2.2.2.2 k hk).1, e, m1, m3]
    cases hla : μ.2.2.1 with
    | none =>
      rw [if_pos rfl, ← hla]
      exact k267 _ (by rw [thk_1 e, hC, hla]; rfl) rfl
    | some y =>
      have hy := hw.2.2.1 y hla
      rw [if_neg (oI_sn (by omega)), ← hla]
      simp only [hla, oI]
      simp (disch := omega) only [nI_ltI, nI_eq, nI_add, nI_clamp, ib_n, pk_mul, q_and, q_or, q_dn, q_shl, q_shlm, q_p1, if_true, if_false, ↓reduceIte, Option.bind_some, bI_0, bI_1, bI_01, b_or, Nat.not_lt_zero, Nat.zero_add, Bool.false_eq_true, Bool.true_eq_false, or_false, or_true, true_or, false_or, q_bit]
      cases hby : C.testBit y with
      | false =>
        simp only [Bool.false_eq_true, if_false]
        rw [← hla]
        exact k267 _ (by rw [thk_1 e, hC, hla]; simp [inO, hby]) rfl
      | true =>
        simp only [if_true]
        rw [← hla]
        refine fin _ ?_
        rw [thk_1 e, hC, hla]
        simp only [inO, Option.any_some, hby, if_true]
        rw [up3]; rfl
  · simp (disch := omega) only [nI_ltI, nI_eq, nI_add, nI_clamp, ib_n, pk_mul, q_and, q_or, q_dn, q_shl, q_shlm, q_p1, if_true, if_false, ↓reduceIte, Option.bind_some, bI_0, bI_1, bI_01, b_or, Nat.not_lt_zero, Nat.zero_add, Bool.false_eq_true, Bool.true_eq_false, or_false, or_true, true_or, false_or, h.1.2.2.1, Nat.lt_irrefl, (h.2.2.2.2 k hk).1, e, m1, m3]
    rw [n_areAllOne _ hcl h hT]
    simp (disch := omega) only [nI_ltI, nI_eq, nI_add, nI_clamp, ib_n, pk_mul, q_and, q_or, q_dn, q_shl, q_shlm, q_p1, if_true, if_false, ↓reduceIte, Option.bind_some, bI_0, bI_1, bI_01, b_or, Nat.not_lt_zero, Nat.zero_add, Bool.false_eq_true, Bool.true_eq_false, or_false, or_true, true_or, false_or]
    cases hp : plainest T C with
    | none =>
      simp only [Option.all_none, Bool.true_eq_false, if_false]
      rw [n_plainest _ hC12 h hT]
      simp (disch := omega) only [nI_ltI, nI_eq, nI_add, nI_clamp, ib_n, pk_mul, q_and, q_or, q_dn, q_shl, q_shlm, q_p1, if_true, if_false, ↓reduceIte, Option.bind_some, bI_0, bI_1, bI_01, b_or, Nat.not_lt_zero, Nat.zero_add, Bool.false_eq_true, Bool.true_eq_false, or_false, or_true, true_or, false_or]
      refine fin _ ?_
      rw [thk_2 e, hC, hp, up3]; rfl
    | some x =>
      simp only [Option.all_some]
      by_cases hz : (dn C (alike T x) == 0) = false
      · rw [if_pos hz]
        refine fin _ ?_
        rw [thk_2 e, hC, hp, Option.any_some, hz, if_neg (by decide), up3]
      · rw [if_neg hz]
        rw [n_plainest _ hC12 h hT]
        simp (disch := omega) only [nI_ltI, nI_eq, nI_add, nI_clamp, ib_n, pk_mul, q_and, q_or, q_dn, q_shl, q_shlm, q_p1, if_true, if_false, ↓reduceIte, Option.bind_some, bI_0, bI_1, bI_01, b_or, Nat.not_lt_zero, Nat.zero_add, Bool.false_eq_true, Bool.true_eq_false, or_false, or_true, true_or, false_or]
        refine fin _ ?_
        rw [thk_2 e, hC, hp, Option.any_some, if_pos (by simpa using hz), up3]
  · simp (disch := omega) only [nI_ltI, nI_eq, nI_add, nI_clamp, ib_n, pk_mul, q_and, q_or, q_dn, q_shl, q_shlm, q_p1, if_true, if_false, ↓reduceIte, Option.bind_some, bI_0, bI_1, bI_01, b_or, Nat.not_lt_zero, Nat.zero_add, Bool.false_eq_true, Bool.true_eq_false, or_false, or_true, true_or, false_or, h.1.2.2.1, Nat.lt_irrefl, (h.2.2.2.2 k hk).1, e, m1, m3]
    have pl : ∀ ag : Bool, (μ.1 s = none → ag = false) → ((μ.1 s).isSome && ag) = ((μ.1 s).isSome && !inO (μ.1 s) (fitg T t so)) → ((ex (d + 4) 158 0 [some (vr 7 0 0), some (vi (nI (b + 10 * k))), some (vi (nI s)), some (vi (nI C)), some (vi (bI ag))] [] O).bind fun r1 => ex (d + 5) 159 274 [some (vr 7 0 0), none, none, some (vi (nI s)), none, none, some (vi (nI (b + 10 * k)))] [] r1.2) = some (nI 0, up (up (up O 7 0 28 (b + 10 * k + s) (oI (thk T k s t so (fitSN T S N) μ).1)) 7 0 28 (b + 10 * k + 4 + s) (nI (thk T k s t so (fitSN T S N) μ).2)) 7 0 28 (b + 10 * k + 8) (oI ((thk T k s t so (fitSN T S N) μ).1 <|> μ.2.2.1))) := by
      intro ag g1 g2
      rw [n_proudLooks d (by omega) (by omega) hC12 (oBig (by omega) (hw.1 s)) wsm h hT m1 m2 g1]
      simp only [Option.bind_some]
      refine fin _ ?_
      rw [thk_3 e, hC, g2]
      dsimp only
      generalize (if ((μ.1 s).isSome && !inO (μ.1 s) (fitg T t so)) = true then μ.2.1 s + 1 else μ.2.1 s) = w'
      by_cases hc : ((μ.1 s).isNone || decide (2 ≤ w')) = true
      · rw [if_pos hc, if_pos hc]
      · rw [if_neg hc, if_neg hc, up_same (c := 7) (n := 0) (p := 28) (j := b + 10 * k + s) m1]
    cases hth : μ.1 s with
    | none =>
      rw [if_pos rfl, sX7_looks_161]
      exact pl false (fun _ => rfl) (by rw [hth]; rfl)
    | some x =>
      have hx := hw.1 s x hth
      have ax := are_lt hT x
      rw [if_neg (oI_sn (by omega))]
      simp only [oI]
      simp (disch := omega) only [nI_ltI, nI_eq, nI_add, nI_clamp, ib_n, pk_mul, q_and, q_or, q_dn, q_shl, q_shlm, q_p1, if_true, if_false, ↓reduceIte, Option.bind_some, bI_0, bI_1, bI_01, b_or, Nat.not_lt_zero, Nat.zero_add, Bool.false_eq_true, Bool.true_eq_false, or_false, or_true, true_or, false_or, (h.2.2.1 x hx).2.2, m_flag, q_bitv, bI_eq]
      by_cases hq : (are T x).testBit t = so
      · rw [if_pos hq, sX7_looks_161]
        exact pl false (fun _ => rfl) (by rw [hth]; simp [inO, fitg_bit hx ht, hq])
      · rw [if_neg hq]
        exact pl true (fun q => by rw [hth] at q; cases q) (by rw [hth]; simp [inO, fitg_bit hx ht, hq])
end
end
