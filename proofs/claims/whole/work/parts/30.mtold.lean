/-! THE MODEL'S TOLD. -/
section
theorem lg_lt (x y : Int64) : (lg_cmp x y < nI 0) ↔ x < y := by
  unfold lg_cmp
  by_cases h1 : x > y
  · rw [if_pos h1]
    have : ¬ x < y := fun q => by
      have a := Int64.lt_iff_toInt_lt.mp h1
      have b := Int64.lt_iff_toInt_lt.mp q
      omega
    exact ⟨fun q => absurd q (by decide), fun q => absurd q this⟩
  · rw [if_neg h1]
    by_cases h2 : x = y
    · rw [if_pos h2]
      subst h2
      exact ⟨fun q => absurd q (by decide), fun q => by have := Int64.lt_iff_toInt_lt.mp q; omega⟩
    · rw [if_neg h2]
      refine ⟨fun _ => ?_, fun _ => by decide⟩
      refine Int64.lt_iff_toInt_lt.mpr ?_
      have a : ¬ y.toInt < x.toInt := fun q => h1 (Int64.lt_iff_toInt_lt.mpr q)
      have b : x.toInt ≠ y.toInt := fun q => h2 (Int64.toInt_inj.mp q)
      omega
theorem lg_gt (x y : Int64) : (nI 0 < lg_cmp x y) ↔ y < x := by
  unfold lg_cmp
  by_cases h1 : x > y
  · rw [if_pos h1]
    exact ⟨fun _ => h1, fun _ => by decide⟩
  · rw [if_neg h1]
    by_cases h2 : x = y
    · rw [if_pos h2]
      exact ⟨fun q => absurd q (by decide), fun q => absurd q h1⟩
    · rw [if_neg h2]
      exact ⟨fun q => absurd q (by decide), fun q => absurd q h1⟩
theorem i64_lt (x y : Int32) : (Int32.toInt64 x < Int32.toInt64 y) ↔ x < y := by
  rw [Int64.lt_iff_toInt_lt, Int32.toInt_toInt64, Int32.toInt_toInt64, Int32.lt_iff_toInt_lt]
def inI (x l h : Int32) : Bool := !decide (x < l) && !decide (h < x)
theorem m_in (d : Nat) (O : Mem_) (x l h : Int32) {a b : Int64} (ha : a = Int32.toInt64 l) (hb : b = Int32.toInt64 h) : ex (d + 1) 121 0 [some (vl (Int32.toInt64 x)), none, some (vl a), none, some (vl b), none] [] O = some (bI (inI x l h), O) := by
  subst ha
  subst hb
  rw [sX7_in_0]
  simp only [lg_lt, lg_gt, i64_lt]
  unfold inI
  by_cases h1 : x < l
  · simp [h1, bI]
  · by_cases h2 : h < x <;> simp [h1, h2, bI]
theorem inI_h (x : Int32) {n : Nat} (hn : n < 2 ^ 30) : inI x (nI 0) (nI n - nI 1) = hsI x n := by
  unfold inI hsI
  by_cases h0 : x < nI 0
  · simp [h0]
  · obtain ⟨j, hj, rfl⟩ := nI_of h0
    have : (nI n - nI 1 < nI j) ↔ ¬ (nI j < nI n) := by
      rw [Int32.lt_iff_toInt_lt, pk_sub_toInt hn (by decide), nI_toInt hj, nI_ltI hj (by omega)]
      omega
    have this2 : decide (nI n - nI 1 < nI j) = !decide (nI j < nI n) := by rw [← decide_not]; exact decide_eq_decide.mpr this
    rw [decide_eq_false h0, this2, Bool.not_not]
theorem inI_n {j a b : Nat} (hj : j < 2 ^ 31) (ha : a < 2 ^ 31) (hb : b < 2 ^ 31) : inI (nI j) (nI a) (nI b) = (decide (a ≤ j) && decide (j ≤ b)) := by
  unfold inI
  have e1 : decide (nI j < nI a) = decide (j < a) := decide_eq_decide.mpr (nI_ltI hj ha)
  have e2 : decide (nI b < nI j) = decide (b < j) := decide_eq_decide.mpr (nI_ltI hb hj)
  rw [e1, e2]
  by_cases h1 : a ≤ j <;> by_cases h2 : j ≤ b <;> simp [h1, h2] <;> omega
theorem inI_c (x : Int32) {b : Nat} (hb : b < 2 ^ 30) : inI x (nI 0) (nI b) = hsI x (b + 1) := by
  unfold inI hsI
  by_cases h0 : x < nI 0
  · simp [h0]
  · obtain ⟨j, hj, rfl⟩ := nI_of h0
    have : (nI b < nI j) ↔ ¬ (nI j < nI (b + 1)) := by
      rw [nI_ltI (by omega) hj, nI_ltI hj (by omega)]
      omega
    have this2 : decide (nI b < nI j) = !decide (nI j < nI (b + 1)) := by rw [← decide_not]; exact decide_eq_decide.mpr this
    rw [decide_eq_false h0, this2, Bool.not_not]
theorem m_flag (d : Nat) (O : Mem_) (b : Bool) : ex (d + 1) 122 0 [some (vi (bI b))] [] O = some (bI b, O) := by
  rw [sX7_flag_0]
  cases b <;> simp (disch := omega) only [nI_ltI, nI_eq, nI_add, nI_clamp, ib_n, pk_mul, q_and, q_or, q_dn, q_shl, q_shlm, q_p1, if_true, if_false, ↓reduceIte, Option.bind_some, bI_0, bI_1, bI_01, b_or, Nat.not_lt_zero, Nat.zero_add, Bool.false_eq_true, Bool.true_eq_false, or_false, or_true, true_or, false_or] <;> rfl
theorem itn_cnt (b : Nat) : ∀ n, itn (fun k a => a + (b.testBit k).toNat) n 0 = cnt b n
  | 0 => rfl
  | n + 1 => by
    show itn _ n 0 + _ = _
    rw [itn_cnt b n]; rfl
theorem m_countOf (d : Nat) (O : Mem_) {b : Nat} (hb : b < 2 ^ 31) : ex (d + 1) 123 0 [some (vi (nI b))] [] O = some (nI (cnt b 16), O) := by
  rw [sX7_countOf_0]
  refine (lp_n (fun k a => ex (d + 1) 123 4 [some (vi (nI b)), some (vi (nI a)), some (vi (nI k))] [] O) (fun k a => a + (b.testBit k).toNat) 16 (fun k a hk => ?_) 0).trans ?_
  · refine (sX7_countOf_4 ..).trans ?_
    simp (disch := omega) only [nI_ltI, nI_eq, nI_add, nI_clamp, ib_n, pk_mul, q_and, q_or, q_dn, q_shl, q_shlm, q_p1, if_true, if_false, ↓reduceIte, Option.bind_some, bI_0, bI_1, bI_01, b_or, Nat.not_lt_zero, Nat.zero_add, Bool.false_eq_true, Bool.true_eq_false, or_false, or_true, true_or, false_or, hk, q_bitv, bI]
  · refine (sX7_countOf_4 ..).trans ?_
    simp (disch := omega) only [nI_ltI, nI_eq, nI_add, nI_clamp, ib_n, pk_mul, q_and, q_or, q_dn, q_shl, q_shlm, q_p1, if_true, if_false, ↓reduceIte, Option.bind_some, bI_0, bI_1, bI_01, b_or, Nat.not_lt_zero, Nat.zero_add, Bool.false_eq_true, Bool.true_eq_false, or_false, or_true, true_or, false_or, Nat.lt_irrefl, itn_cnt]
theorem cnt_hi {b k : Nat} (hb : b < 2 ^ k) : ∀ n, k ≤ n → cnt b n = cnt b k
  | 0, h => by rw [Nat.le_zero.mp h]
  | n + 1, h => by
    by_cases e : k = n + 1
    · rw [e]
    · show cnt b n + (b.testBit n).toNat = _
      rw [cnt_hi hb n (by omega), Nat.testBit_lt_two_pow (Nat.lt_of_lt_of_le hb (Nat.pow_le_pow_right (by decide) (by omega)))]
      rfl
theorem cnt_or {a b : Nat} (h : a &&& b = 0) : ∀ n, cnt (a ||| b) n = cnt a n + cnt b n
  | 0 => rfl
  | n + 1 => by
    unfold cnt
    rw [cnt_or h n, Nat.testBit_or]
    have : (a.testBit n && b.testBit n) = false := by rw [← Nat.testBit_and, h, Nat.zero_testBit]
    cases ha : a.testBit n <;> cases hb : b.testBit n <;> simp_all <;> omega
/-- the model's rows hold what is told -/
def MT (R : Nat → Nat → Int32) (T : Td_) : Prop :=
  (R 0 0 = nI (nT T) ∧ R 0 2 = nI (nM T) ∧ R 0 5 = nI (nS T) ∧ R 0 7 = nI (nK T)) ∧
  (∀ t, t < nT T → R 2 t = nI (mk_ T t)) ∧
  (∀ m, m < nM T → R 4 m = nI (hs_ T m) ∧ R 5 m = nI (hn_ T m) ∧ R 19 m = nI (are T m)) ∧
  (∀ s, s < nS T → R 7 s = nI (tg_ T s)) ∧
  (∀ k, k < nK T → R 9 (5 * k) = nI (so_ T k) ∧ R 9 (5 * k + 1) = nI (se_ T k) ∧ R 9 (5 * k + 2) = oI (fe_ T k) ∧ R 9 (5 * k + 3) = bI (ul_ T k) ∧ R 9 (5 * k + 4) = nI (ch_ T k))
section
variable {T : Td_} {O : Mem_}
theorem n_isThing (d : Nat) (x : Int32) (h : MT (O 7 0) T) (hT : WT T) : ex (d + 2) 142 0 [some (vr 7 0 0), some (vi x)] [] O = some (bI (hsI x (nT T)), O) := by
  have := hT.1
  rw [sX7_isThing_0, h.1.1, m_in d O x (nI 0) (nI (nT T) - nI 1) (a := 0) (by decide) rfl, inI_h _ (by omega)]
  simp (disch := omega) only [nI_ltI, nI_eq, nI_add, nI_clamp, ib_n, pk_mul, q_and, q_or, q_dn, q_shl, q_shlm, q_p1, if_true, if_false, ↓reduceIte, Option.bind_some, bI_0, bI_1, bI_01, b_or, Nat.not_lt_zero, Nat.zero_add, Bool.false_eq_true, Bool.true_eq_false, or_false, or_true, true_or, false_or]
theorem n_isSound (d : Nat) (x : Int32) (h : MT (O 7 0) T) (hT : WT T) : ex (d + 2) 143 0 [some (vr 7 0 0), some (vi x)] [] O = some (bI (hsI x (nS T)), O) := by
  have := hT.2.2.1
  rw [sX7_isSound_0, h.1.2.2.1, m_in d O x (nI 0) (nI (nS T) - nI 1) (a := 0) (by decide) rfl, inI_h _ (by omega)]
  simp (disch := omega) only [nI_ltI, nI_eq, nI_add, nI_clamp, ib_n, pk_mul, q_and, q_or, q_dn, q_shl, q_shlm, q_p1, if_true, if_false, ↓reduceIte, Option.bind_some, bI_0, bI_1, bI_01, b_or, Nat.not_lt_zero, Nat.zero_add, Bool.false_eq_true, Bool.true_eq_false, or_false, or_true, true_or, false_or]
theorem n_isKind (d : Nat) (x : Int32) (h : MT (O 7 0) T) (hT : WT T) : ex (d + 2) 144 0 [some (vr 7 0 0), some (vi x)] [] O = some (bI (hsI x (nK T)), O) := by
  have := hT.2.2.2.1
  rw [sX7_isKind_0, h.1.2.2.2, m_in d O x (nI 0) (nI (nK T) - nI 1) (a := 0) (by decide) rfl, inI_h _ (by omega)]
  simp (disch := omega) only [nI_ltI, nI_eq, nI_add, nI_clamp, ib_n, pk_mul, q_and, q_or, q_dn, q_shl, q_shlm, q_p1, if_true, if_false, ↓reduceIte, Option.bind_some, bI_0, bI_1, bI_01, b_or, Nat.not_lt_zero, Nat.zero_add, Bool.false_eq_true, Bool.true_eq_false, or_false, or_true, true_or, false_or]
theorem n_areKinds (d : Nat) (x : Int32) (h : MT (O 7 0) T) (hT : WT T) : ex (d + 2) 145 0 [some (vr 7 0 0), some (vi x)] [] O = some (bI (hsI x (2 ^ nK T)), O) := by
  have := hT.2.2.2.1
  have h2 : 2 ^ nK T ≤ 2 ^ 6 := Nat.pow_le_pow_right (by decide) this
  rw [sX7_areKinds_0, h.1.2.2.2, q_shl _ (by omega), m_in d O x (nI 0) (nI (2 ^ nK T) - nI 1) (a := 0) (by decide) rfl, inI_h _ (by omega)]
  simp (disch := omega) only [nI_ltI, nI_eq, nI_add, nI_clamp, ib_n, pk_mul, q_and, q_or, q_dn, q_shl, q_shlm, q_p1, if_true, if_false, ↓reduceIte, Option.bind_some, bI_0, bI_1, bI_01, b_or, Nat.not_lt_zero, Nat.zero_add, Bool.false_eq_true, Bool.true_eq_false, or_false, or_true, true_or, false_or]
theorem n_marksOf (d : Nat) {m : Nat} (hm : m < nM T) (h : MT (O 7 0) T) (hT : WT T) : ex (d + 2) 146 0 [some (vr 7 0 0), some (vi (nI m))] [] O = some (nI (asks T m), O) := by
  have := hT.2.1
  obtain ⟨h1, h2, h3⟩ := hT.2.2.2.2.2.1 m
  obtain ⟨g1, g2, g3⟩ := h.2.2.1 m hm
  rw [sX7_marksOf_0]
  simp (disch := omega) only [nI_ltI, nI_eq, nI_add, nI_clamp, ib_n, pk_mul, q_and, q_or, q_dn, q_shl, q_shlm, q_p1, if_true, if_false, ↓reduceIte, Option.bind_some, bI_0, bI_1, bI_01, b_or, Nat.not_lt_zero, Nat.zero_add, Bool.false_eq_true, Bool.true_eq_false, or_false, or_true, true_or, false_or, g1, g2, m_countOf]
  have e : asks T m = cnt (hs_ T m) 16 + cnt (hn_ T m) 16 := by
    unfold asks
    rw [cnt_or h3, cnt_hi (k := 8) h1 16 (by decide), cnt_hi (k := 8) h2 16 (by decide)]
  rw [e]
theorem itn_ms0 (f : Nat → Bool) : ∀ n, itn (fun k a => if f k = true then a ||| 2 ^ k else a ||| 0) n 0 = ms n f
  | 0 => rfl
  | n + 1 => by
    show (if f n = true then itn _ n 0 ||| 2 ^ n else itn _ n 0 ||| 0) = _
    rw [itn_ms0 f n, Nat.or_zero]; rfl
theorem n_canThink (d : Nat) {k : Nat} (hk : k < nK T) (h : MT (O 7 0) T) (hT : WT T) : ex (d + 1) 147 0 [some (vr 7 0 0), some (vi (nI k))] [] O = some (nI (can T k), O) := by
  have h12 := hT.2.1
  have h6 := hT.2.2.2.1
  rw [sX7_canThink_0]
  refine (lp_n (fun m a => ex (d + 1) 147 4 [some (vr 7 0 0), some (vi (nI k)), some (vi (nI a)), some (vi (nI m))] [] O) (fun m a => if (dn (hs_ T m ||| hn_ T m) (se_ T k) == 0) = true then a ||| 2 ^ m else a ||| 0) (nM T) (fun m a hm => ?_) 0).trans ?_
  · obtain ⟨g1, g2, g3⟩ := h.2.2.1 m hm
    obtain ⟨h1, h2, h3⟩ := hT.2.2.2.2.2.1 m
    have h4 : hs_ T m ||| hn_ T m < 2 ^ 8 := Nat.or_lt_two_pow h1 h2
    have := dn_le (hs_ T m ||| hn_ T m) (se_ T k)
    refine (sX7_canThink_4 ..).trans ?_
    simp (disch := omega) only [nI_ltI, nI_eq, nI_add, nI_clamp, ib_n, pk_mul, q_and, q_or, q_dn, q_shl, q_shlm, q_p1, if_true, if_false, ↓reduceIte, Option.bind_some, bI_0, bI_1, bI_01, b_or, Nat.not_lt_zero, Nat.zero_add, Bool.false_eq_true, Bool.true_eq_false, or_false, or_true, true_or, false_or, h.1.2.1, hm, g1, g2, (h.2.2.2.2 k hk).2.1, beq_iff_eq]
    split <;> rfl
  · refine (sX7_canThink_4 ..).trans ?_
    simp (disch := omega) only [nI_ltI, nI_eq, nI_add, nI_clamp, ib_n, pk_mul, q_and, q_or, q_dn, q_shl, q_shlm, q_p1, if_true, if_false, ↓reduceIte, Option.bind_some, bI_0, bI_1, bI_01, b_or, Nat.not_lt_zero, Nat.zero_add, Bool.false_eq_true, Bool.true_eq_false, or_false, or_true, true_or, false_or, h.1.2.1, Nat.lt_irrefl, itn_ms0]
    rfl
theorem n_targetOf (d : Nat) {s : Nat} (hs : s < nS T) (h : MT (O 7 0) T) (hT : WT T) : ex (d + 1) 148 0 [some (vr 7 0 0), some (vi (nI s))] [] O = some (nI (tgA T s), O) := by
  have h4 := hT.2.2.1
  have h12 := hT.2.1
  have ht := hT.2.2.2.2.2.2.1 s hs
  rw [sX7_targetOf_0]
  simp (disch := omega) only [nI_ltI, nI_eq, nI_add, nI_clamp, ib_n, pk_mul, q_and, q_or, q_dn, q_shl, q_shlm, q_p1, if_true, if_false, ↓reduceIte, Option.bind_some, bI_0, bI_1, bI_01, b_or, Nat.not_lt_zero, Nat.zero_add, Bool.false_eq_true, Bool.true_eq_false, or_false, or_true, true_or, false_or, h.2.2.2.1 s hs, (h.2.2.1 _ ht).2.2]
  rfl
theorem n_isTrue (d : Nat) {s t : Nat} (hs : s < nS T) (ht : t < 31) (h : MT (O 7 0) T) (hT : WT T) : ex (d + 2) 164 0 [some (vr 7 0 0), some (vi (nI s)), some (vi (nI t))] [] O = some (bI (isTg T s t), O) := by
  have := tgA_lt hT s
  rw [sX7_isTrue_0]
  simp (disch := omega) only [nI_ltI, nI_eq, nI_add, nI_clamp, ib_n, pk_mul, q_and, q_or, q_dn, q_shl, q_shlm, q_p1, if_true, if_false, ↓reduceIte, Option.bind_some, bI_0, bI_1, bI_01, b_or, Nat.not_lt_zero, Nat.zero_add, Bool.false_eq_true, Bool.true_eq_false, or_false, or_true, true_or, false_or, n_targetOf d hs h hT, q_bit, isTg]
  cases (tgA T s).testBit t <;> simp [bI]
/-- the plainest of a mask, as least of all -/
def isPl (T : Td_) (b : Nat) (n : Nat) (o : Option Nat) : Prop := match o with
  | none => ∀ m, m < n → b.testBit m = false
  | some x => x < n ∧ b.testBit x = true ∧ ∀ m, m < n → b.testBit m = true → asks T x < asks T m ∨ (asks T x = asks T m ∧ x ≤ m)
theorem isPl_uniq {b n : Nat} {o p : Option Nat} (h : isPl T b n o) (g : isPl T b n p) : o = p := by
  cases o with
  | none => cases p with
    | none => rfl
    | some y => have := h y g.1; rw [g.2.1] at this; cases this
  | some x => cases p with
    | none => have := g x h.1; rw [h.2.1] at this; cases this
    | some y =>
      have h1 := h.2.2 y g.1 g.2.1
      have h2 := g.2.2 x h.1 h.2.1
      congr 1
      omega
theorem find_pw {R : Nat → Nat → Prop} {c : Nat → Bool} : ∀ {l : List Nat}, l.Pairwise R → ∀ {x : Nat}, l.find? c = some x → ∀ y, y ∈ l → c y = true → y = x ∨ R x y
  | [], _, _, h, _, _, _ => by cases h
  | a :: l, hp, x, h, y, hy, hc => by
    rw [List.find?_cons] at h
    cases ha : c a with
    | true =>
      rw [ha] at h
      cases h
      rcases List.mem_cons.mp hy with e | e
      · exact Or.inl e
      · exact Or.inr (List.rel_of_pairwise_cons hp e)
    | false =>
      rw [ha] at h
      rcases List.mem_cons.mp hy with e | e
      · rw [e, ha] at hc; cases hc
      · exact find_pw (List.Pairwise.of_cons hp) h y e hc
theorem fpl_pw : (fpl T).Pairwise fun x y => asks T x < asks T y ∨ (asks T x = asks T y ∧ x ≤ y) := by
  unfold fpl
  rw [List.pairwise_flatMap]
  refine ⟨fun a _ => ?_, ?_⟩
  · refine List.Pairwise.imp_of_mem (R := fun x y => x ≤ y) (fun {x y} hx hy hxy => ?_) ((List.pairwise_le_range).filter _)
    have h1 := beq_iff_eq.mp (List.mem_filter.mp hx).2
    have h2 := beq_iff_eq.mp (List.mem_filter.mp hy).2
    exact Or.inr ⟨h1.trans h2.symm, hxy⟩
  · refine List.Pairwise.imp (R := fun x y => x < y) (fun {a b} hab x hx y hy => ?_) List.pairwise_lt_range
    have h1 := beq_iff_eq.mp (List.mem_filter.mp hx).2
    have h2 := beq_iff_eq.mp (List.mem_filter.mp hy).2
    exact Or.inl (by omega)
theorem mem_fpl' {m : Nat} (h : m < nM T) : m ∈ fpl T := by
  unfold fpl
  refine List.mem_flatMap.mpr ⟨asks T m, List.mem_range.mpr (Nat.lt_succ_of_le (cnt_le _ 8)), List.mem_filter.mpr ⟨List.mem_range.mpr h, beq_self_eq_true _⟩⟩
theorem plainest_is (b : Nat) : isPl T b (nM T) (plainest T b) := by
  cases h : plainest T b with
  | none =>
    intro m hm
    have := List.find?_eq_none.mp h m (mem_fpl' hm)
    simpa using this
  | some x =>
    have hx := plainest_lt h
    refine ⟨hx.1, hx.2, fun m hm hb => ?_⟩
    rcases find_pw fpl_pw h m (mem_fpl' hm) hb with e | e
    · exact Or.inr ⟨by rw [e], by omega⟩
    · exact e
theorem n_plainest (d : Nat) {b : Nat} (hb : b < 2 ^ 31) (h : MT (O 7 0) T) (hT : WT T) : ex (d + 3) 156 0 [some (vr 7 0 0), some (vi (nI b))] [] O = some (oI (plainest T b), O) := by
  have h12 := hT.2.1
  rw [sX7_plainest_0]
  refine Exists.elim (lp_i (fun m (o : Option Nat) => ex (d + 3) 156 5 [some (vr 7 0 0), some (vi (nI b)), some (vi (oI o)), some (vi (nI m))] [] O) (fun m o => isPl T b m o) (nM T) ?_ none (fun m hm => by omega)) ?_
  · intro m o hm ho
    cases hbm : b.testBit m with
    | false =>
      refine ⟨o, ?_, ?_⟩
      · refine (sX7_plainest_5 ..).trans ?_
        simp (disch := omega) only [nI_ltI, nI_eq, nI_add, nI_clamp, ib_n, pk_mul, q_and, q_or, q_dn, q_shl, q_shlm, q_p1, if_true, if_false, ↓reduceIte, Option.bind_some, bI_0, bI_1, bI_01, b_or, Nat.not_lt_zero, Nat.zero_add, Bool.false_eq_true, Bool.true_eq_false, or_false, or_true, true_or, false_or, h.1.2.1, hm, q_bit, hbm]
      · cases o with
        | none =>
          intro q hq
          by_cases e : q = m
          · rw [e, hbm]
          · exact ho q (by omega)
        | some x =>
          refine ⟨by have := ho.1; omega, ho.2.1, fun q hq hb => ?_⟩
          have : q ≠ m := fun e => by rw [e, hbm] at hb; cases hb
          exact ho.2.2 q (by omega) hb
    | true =>
      cases o with
      | none =>
        refine ⟨some m, ?_, Nat.lt_succ_self _, hbm, fun q hq hb => ?_⟩
        · refine (sX7_plainest_5 ..).trans ?_
          simp (disch := omega) only [nI_ltI, nI_eq, nI_add, nI_clamp, ib_n, pk_mul, q_and, q_or, q_dn, q_shl, q_shlm, q_p1, if_true, if_false, ↓reduceIte, Option.bind_some, bI_0, bI_1, bI_01, b_or, Nat.not_lt_zero, Nat.zero_add, Bool.false_eq_true, Bool.true_eq_false, or_false, or_true, true_or, false_or, h.1.2.1, hm, q_bit, hbm]
          rfl
        · by_cases e : q = m
          · exact Or.inr ⟨by rw [e], by omega⟩
          · have := ho q (by omega); rw [this] at hb; cases hb
      | some x =>
        have hx := ho.1
        have a1 : asks T m ≤ 8 := cnt_le _ 8
        have a2 : asks T x ≤ 8 := cnt_le _ 8
        have hne := oI_sn (j := x) (by omega)
        refine ⟨if asks T m < asks T x then some m else some x, ?_, ?_⟩
        · refine (sX7_plainest_5 ..).trans ?_
          simp (disch := omega) only [nI_ltI, nI_eq, nI_add, nI_clamp, ib_n, pk_mul, q_and, q_or, q_dn, q_shl, q_shlm, q_p1, if_true, if_false, ↓reduceIte, Option.bind_some, bI_0, bI_1, bI_01, b_or, Nat.not_lt_zero, Nat.zero_add, Bool.false_eq_true, Bool.true_eq_false, or_false, or_true, true_or, false_or, h.1.2.1, hm, q_bit, hbm, hne]
          rw [n_marksOf _ hm h hT]
          simp only [oI, Option.bind_some]
          rw [n_marksOf _ (by omega) h hT]
          simp (disch := omega) only [nI_ltI, nI_eq, nI_add, nI_clamp, ib_n, pk_mul, q_and, q_or, q_dn, q_shl, q_shlm, q_p1, if_true, if_false, ↓reduceIte, Option.bind_some, bI_0, bI_1, bI_01, b_or, Nat.not_lt_zero, Nat.zero_add, Bool.false_eq_true, Bool.true_eq_false, or_false, or_true, true_or, false_or]
          split <;> rfl
        · by_cases hlt : asks T m < asks T x
          · rw [if_pos hlt]
            refine ⟨Nat.lt_succ_self _, hbm, fun q hq hb => ?_⟩
            by_cases e : q = m
            · exact Or.inr ⟨by rw [e], by omega⟩
            · have := ho.2.2 q (by omega) hb; omega
          · rw [if_neg hlt]
            refine ⟨by omega, ho.2.1, fun q hq hb => ?_⟩
            by_cases e : q = m
            · subst e; omega
            · exact ho.2.2 q (by omega) hb
  · rintro o ⟨e, ho⟩
    refine e.trans ((sX7_plainest_5 ..).trans ?_)
    simp (disch := omega) only [nI_ltI, nI_eq, nI_add, nI_clamp, ib_n, pk_mul, q_and, q_or, q_dn, q_shl, q_shlm, q_p1, if_true, if_false, ↓reduceIte, Option.bind_some, bI_0, bI_1, bI_01, b_or, Nat.not_lt_zero, Nat.zero_add, Bool.false_eq_true, Bool.true_eq_false, or_false, or_true, true_or, false_or, h.1.2.1, Nat.lt_irrefl]
    rw [isPl_uniq ho (plainest_is b)]
theorem n_areAllOne (d : Nat) {b : Nat} (hb : b < 2 ^ nM T) (h : MT (O 7 0) T) (hT : WT T) : ex (d + 4) 157 0 [some (vr 7 0 0), some (vi (nI b))] [] O = some (bI ((plainest T b).all fun m => dn b (alike T m) == 0), O) := by
  have h12 := hT.2.1
  have hb2 : b < 4096 := Nat.lt_of_lt_of_le hb (Nat.pow_le_pow_right (n := 2) (by decide) h12)
  rw [sX7_areAllOne_0, n_plainest _ (by omega) h hT]
  simp (disch := omega) only [nI_ltI, nI_eq, nI_add, nI_clamp, ib_n, pk_mul, q_and, q_or, q_dn, q_shl, q_shlm, q_p1, if_true, if_false, ↓reduceIte, Option.bind_some, bI_0, bI_1, bI_01, b_or, Nat.not_lt_zero, Nat.zero_add, Bool.false_eq_true, Bool.true_eq_false, or_false, or_true, true_or, false_or]
  refine Exists.elim (lp_i (fun m (a : Bool) => ex (d + 4) 157 11 [some (vr 7 0 0), some (vi (nI b)), some (vi (oI (plainest T b))), some (vi (bI a)), some (vi (nI m))] [] O) (fun m a => a = (List.range m).all fun q => !b.testBit q || (plainest T b).all fun x => are T x == are T q) (nM T) ?_ true (by simp)) ?_
  · intro m a hm ha
    have am := are_lt hT m
    cases ac : a with
    | false =>
      refine ⟨false, ?_, ?_⟩
      · refine (sX7_areAllOne_11 ..).trans ?_
        simp (disch := omega) only [nI_ltI, nI_eq, nI_add, nI_clamp, ib_n, pk_mul, q_and, q_or, q_dn, q_shl, q_shlm, q_p1, if_true, if_false, ↓reduceIte, Option.bind_some, bI_0, bI_1, bI_01, b_or, Nat.not_lt_zero, Nat.zero_add, Bool.false_eq_true, Bool.true_eq_false, or_false, or_true, true_or, false_or, h.1.2.1, hm]
        rfl
      · rw [List.range_succ, List.all_append, ← ha, ac]; rfl
    | true =>
      cases hbm : b.testBit m with
      | false =>
        refine ⟨true, ?_, ?_⟩
        · refine (sX7_areAllOne_11 ..).trans ?_
          simp (disch := omega) only [nI_ltI, nI_eq, nI_add, nI_clamp, ib_n, pk_mul, q_and, q_or, q_dn, q_shl, q_shlm, q_p1, if_true, if_false, ↓reduceIte, Option.bind_some, bI_0, bI_1, bI_01, b_or, Nat.not_lt_zero, Nat.zero_add, Bool.false_eq_true, Bool.true_eq_false, or_false, or_true, true_or, false_or, h.1.2.1, hm, q_bitv, hbm]
          rfl
        · rw [List.range_succ, List.all_append, ← ha, ac]; simp [hbm]
      | true =>
        cases hp : plainest T b with
        | none =>
          have := plainest_is (T := T) b
          rw [hp] at this
          have := this m hm
          rw [hbm] at this; cases this
        | some x =>
          have hx := (plainest_lt hp).1
          have ax := are_lt hT x
          refine ⟨are T x == are T m, ?_, ?_⟩
          · refine (sX7_areAllOne_11 ..).trans ?_
            simp only [oI]
            simp (disch := omega) only [nI_ltI, nI_eq, nI_add, nI_clamp, ib_n, pk_mul, q_and, q_or, q_dn, q_shl, q_shlm, q_p1, if_true, if_false, ↓reduceIte, Option.bind_some, bI_0, bI_1, bI_01, b_or, Nat.not_lt_zero, Nat.zero_add, Bool.false_eq_true, Bool.true_eq_false, or_false, or_true, true_or, false_or, h.1.2.1, hm, q_bitv, hbm, (h.2.2.1 x hx).2.2, (h.2.2.1 m hm).2.2]
            by_cases e : are T m = are T x
            · simp [e, bI]
            · have e2 : ¬ are T x = are T m := fun q => e q.symm
              have e3 : (are T x == are T m) = false := beq_false_of_ne e2
              simp [e, e3, bI]
          · rw [List.range_succ, List.all_append, ← hp, ← ha, ac]; simp [hbm, hp]
  · rintro a ⟨e, ha⟩
    refine e.trans ((sX7_areAllOne_11 ..).trans ?_)
    simp (disch := omega) only [nI_ltI, nI_eq, nI_add, nI_clamp, ib_n, pk_mul, q_and, q_or, q_dn, q_shl, q_shlm, q_p1, if_true, if_false, ↓reduceIte, Option.bind_some, bI_0, bI_1, bI_01, b_or, Nat.not_lt_zero, Nat.zero_add, Bool.false_eq_true, Bool.true_eq_false, or_false, or_true, true_or, false_or, h.1.2.1, Nat.lt_irrefl]
    congr 3
    rw [ha]
    cases hp : plainest T b with
    | none =>
      have := plainest_is (T := T) b
      rw [hp] at this
      simp only [Option.all_none, Bool.or_true, List.all_eq_true, implies_true]
    | some x =>
      rw [Bool.eq_iff_iff]
      simp only [Option.all_some, List.all_eq_true, List.mem_range, beq_iff_eq, Bool.or_eq_true, Bool.not_eq_true']
      constructor
      · intro g
        apply Nat.eq_of_testBit_eq
        intro q
        rw [dn_bit, Nat.zero_testBit, alike, ms_bit]
        by_cases hq : q < nM T
        · rcases g q hq with z | z
          · simp [z]
          · simp [hq, z]
        · rw [Nat.testBit_lt_two_pow (Nat.lt_of_lt_of_le hb (Nat.pow_le_pow_right (by decide) (by omega)))]
          rfl
      · intro g q hq
        have := congrArg (fun z => z.testBit q) g
        simp only [dn_bit, Nat.zero_testBit, alike, ms_bit, hq, decide_true, Bool.true_and] at this
        cases hbq : b.testBit q with
        | false => exact Or.inl rfl
        | true => rw [hbq] at this; simp at this; exact Or.inr this
end
end
