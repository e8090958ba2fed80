/-! THE LAW TELLS ITS TEXT: meanings. -/
section
theorem TQ.fr {O O' : Mem_} {bs : List Nat} (h : TQ O bs) (e : ∀ c, c ≠ 7 → O' c = O c) (e6 : O' 7 0 6 = O 7 0 6) : TQ O' bs := by
  obtain ⟨⟨tp, w, ci, t1, t2, r0, r1, r2⟩, hb⟩ := h
  exact ⟨⟨tp, w, ci.of7 e, t1, t2, by rw [rL_of e6]; exact r0, by rw [rL_of e6]; exact r1, by rw [rL_of e6]; exact r2⟩, hb⟩
theorem dn_0 (x m : Nat) : dn x m = 0 ↔ m &&& x = x := by
  constructor
  · intro h
    apply Nat.eq_of_testBit_eq
    intro i
    have := congrArg (fun z => z.testBit i) h
    simp only [dn_bit, Nat.zero_testBit] at this
    rw [Nat.testBit_and]
    cases hx : x.testBit i <;> cases hm : m.testBit i <;> simp_all
  · intro h
    apply Nat.eq_of_testBit_eq
    intro i
    have := congrArg (fun z => z.testBit i) h
    simp only [Nat.testBit_and] at this
    rw [dn_bit, Nat.zero_testBit]
    cases hx : x.testBit i <;> cases hm : m.testBit i <;> simp_all
theorem dn_and (a b : Nat) : b &&& dn a b = 0 := by
  apply Nat.eq_of_testBit_eq
  intro i
  rw [Nat.testBit_and, dn_bit, Nat.zero_testBit]
  cases a.testBit i <;> cases b.testBit i <;> rfl
/-- things that are a meaning -/
def isQ (l : List Nat) (q : Nat × Nat) (t : Nat) : Bool := (l.getD t 0 &&& q.1 == q.1) && (l.getD t 0 &&& q.2 == 0)
theorem isQ_i (l : List Nat) (x y t : Nat) : isQ l (x, y) t = (decide (l.getD t 0 &&& x = x) && decide (l.getD t 0 &&& y = 0)) := rfl
def areL (l : List Nat) (q : Nat × Nat) : Nat := ms l.length (isQ l q)
/-- k meanings were told -/
def S2 (L a b c e k : Nat) (l : List Nat) (M : List (Nat × Nat)) (O : Mem_) : Prop := l.length = a ∧ (∀ x ∈ l, x < 16) ∧ (∀ j, j < a → O 7 0 1 j = nI (l.getD j 0)) ∧ M.length = k ∧ (∀ q ∈ M, q.1 < 16 ∧ q.2 < 16 ∧ q.1 &&& q.2 = 0) ∧ (∀ j, j < k → O 7 0 2 (3 * j) = nI (M.getD j (0, 0)).1 ∧ O 7 0 2 (3 * j + 1) = nI (M.getD j (0, 0)).2 ∧ O 7 0 2 (3 * j + 2) = nI (areL l (M.getD j (0, 0)))) ∧ TQ O (l.flatMap lnT ++ M.flatMap lnM) ∧ Mn (O 7 0) a b c e ∧ O 8 0 1 0 = nI L
theorem lnM_len {q : Nat × Nat} (h : q.1 < 16 ∧ q.2 < 16 ∧ q.1 &&& q.2 = 0) : (lnM q).length ≤ 20 := by
  have h1 := txL_16 q.1 h.1
  have h2 := txL_16 q.2 h.2.1
  have h3 : w_means.length = 5 := rfl
  have h4 : (32 :: w_not).length = 4 := rfl
  unfold lnM
  split
  · simp only [List.length_append, List.length_singleton, List.length_nil]; omega
  · rw [List.length_append, List.length_append, List.length_append, List.length_append, List.length_singleton]; omega
theorem wl_means : wl 469852319347 8 = w_means := by decide +kernel
theorem wl_not : wl 544108404 8 = 32 :: w_not := by decide +kernel
/-- the rows of the k-th meaning alone are changed -/
def U2 (k : Nat) (O O' : Mem_) : Prop := (∀ c, c ≠ 7 → O' c = O c) ∧ (∀ p, p ≠ 2 → O' 7 0 p = O 7 0 p) ∧ ∀ j, (j < 3 * k ∨ 3 * k + 3 ≤ j) → O' 7 0 2 j = O 7 0 2 j
theorem U2.rf {k : Nat} {O : Mem_} : U2 k O O := ⟨fun _ _ => rfl, fun _ _ => rfl, fun _ _ => rfl⟩
theorem U2.u {k j : Nat} {O O' : Mem_} {v : Int32} (h : U2 k O O') (hj : 3 * k ≤ j ∧ j < 3 * k + 3) : U2 k O (up O' 7 0 2 j v) := ⟨fun c z => (funext fun q => up_row (Or.inl z)).trans (h.1 c z), fun p z => (funext fun q => up_ne (by omega)).trans (h.2.1 p z), fun i hi => (up_ne (by omega)).trans (h.2.2 i hi)⟩
theorem e265 {O : Mem_} {n k y : Nat} (hk : k < 8) : ex 10 129 265 [some (vr 6 0 0), some (vr 8 0 0), some (vi (nI 0)), some (vr 7 0 1), some (vr 7 0 2), some (vr 7 0 3), some (vr 7 0 4), some (vr 7 0 5), some (vr 7 0 6), none, none, some (vi (nI n)), some (vi (nI k))] [vi (nI y), vi (nI (3 * k + 1)), vr 7 0 2] O = ex 10 129 279 [some (vr 6 0 0), some (vr 8 0 0), some (vi (nI 0)), some (vr 7 0 1), some (vr 7 0 2), some (vr 7 0 3), some (vr 7 0 4), some (vr 7 0 5), some (vr 7 0 6), none, none, some (vi (nI n)), some (vi (nI k)), none, some (vi (nI 0))] [] (up (up O 7 0 2 (3 * k + 1) (nI y)) 7 0 2 (3 * k + 2) (nI 0)) := by
  refine (sL_told_265 ..).trans ?_
  rw [pk_mul, nI_add, nI_clamp (by omega), nI_clamp (by omega), if_pos (ib_n (by omega) (by decide)), if_pos (ib_n (by omega) (by decide))]
theorem s2_in {L a b c e n k : Nat} {l : List Nat} {M : List (Nat × Nat)} {O : Mem_} (h31 : L < 2 ^ 31) (hn : 0 < n) (hn16 : n ≤ 16) (hb : b ≤ 6) (hk : k < b) (h : S2 L a b c e k l M O) : ∃ x y O1, x < 16 ∧ y < 16 ∧ x &&& y = 0 ∧ U2 k O O1 ∧ O1 7 0 2 (3 * k) = nI x ∧ O1 7 0 2 (3 * k + 1) = nI y ∧ O1 7 0 2 (3 * k + 2) = nI 0 ∧
    ex 10 129 159 [some (vr 6 0 0), some (vr 8 0 0), some (vi (nI 0)), some (vr 7 0 1), some (vr 7 0 2), some (vr 7 0 3), some (vr 7 0 4), some (vr 7 0 5), some (vr 7 0 6), none, none, some (vi (nI (n - 1))), some (vi (nI k))] [] O = ex 10 129 279 [some (vr 6 0 0), some (vr 8 0 0), some (vi (nI 0)), some (vr 7 0 1), some (vr 7 0 2), some (vr 7 0 3), some (vr 7 0 4), some (vr 7 0 5), some (vr 7 0 6), none, none, some (vi (nI (n - 1))), some (vi (nI k)), none, some (vi (nI 0))] [] O1 := by
  obtain ⟨-, -, -, -, -, -, -, h5, h6⟩ := h
  have hn1 : nI (n - 1) + nI 1 = nI n := by rw [nI_add]; congr 1; omega
  obtain ⟨r0, e0⟩ := cell_ok 8 (k := 0 + 2 + k) h6 h31 (by omega)
  obtain ⟨a1, ha1, e1⟩ := low_ok 8 O r0 hn (by omega)
  obtain ⟨a2, ha2, e2⟩ := low_ok 8 O (r0 >>> (nI 5 &&& (31 : Int32))) hn (by omega)
  have hx : a1 &&& a2 < 16 := Nat.lt_of_le_of_lt (Nat.and_le_left) (by omega)
  have st := sL_told_159 9 O (nI 0) (nI (n - 1)) (nI k)
  have i1 : (nI 1).toNatClampNeg = 1 := by decide
  rw [if_pos (by decide), i1, h5.2.1, if_pos (by rw [nI_ltI (by omega) (by omega)]; exact hk), nI_add, nI_add, e0, Option.bind_some, hn1] at st
  simp only [e1, e2, Option.bind_some] at st
  rw [pk_mul, if_pos (ib_n (by omega) (by decide)), nI_clamp (by omega), q_and, nI_add] at st
  by_cases hbit : ((r0 >>> (nI 10 &&& (31 : Int32))) &&& nI 1) = nI 0
  · rw [if_pos hbit, e265 (by omega)] at st
    refine ⟨a1 &&& a2, 0, _, hx, by decide, Nat.and_zero _, ((U2.rf.u ⟨?_, ?_⟩).u ⟨?_, ?_⟩).u ⟨?_, ?_⟩, ?_, ?_, ?_, st⟩
    all_goals first | omega | skip
    · rw [up_ne (by omega), up_ne (by omega), up_eq]
    · rw [up_ne (by omega), up_eq]
    · rw [up_eq]
  · rw [if_neg hbit] at st
    obtain ⟨a3, ha3, e3⟩ := low_ok 8 (up O 7 0 2 (3 * k) (nI (a1 &&& a2))) (r0 >>> (nI 11 &&& (31 : Int32))) hn (by omega)
    obtain ⟨a4, ha4, e4⟩ := low_ok 8 (up O 7 0 2 (3 * k) (nI (a1 &&& a2))) (r0 >>> (nI 16 &&& (31 : Int32))) hn (by omega)
    simp only [e3, e4, Option.bind_some] at st
    rw [if_pos (ib_n (by omega) (by decide)), up_eq, q_and, q_dn, e265 (by omega)] at st
    refine ⟨a1 &&& a2, dn (a3 &&& a4) (a1 &&& a2), _, hx, Nat.lt_of_le_of_lt (dn_le _ _) (Nat.lt_of_le_of_lt Nat.and_le_left (by omega)), dn_and _ _, ((U2.rf.u ⟨?_, ?_⟩).u ⟨?_, ?_⟩).u ⟨?_, ?_⟩, ?_, ?_, ?_, st⟩
    all_goals first | omega | skip
    · rw [up_ne (by omega), up_ne (by omega), up_eq]
    · rw [up_ne (by omega), up_eq]
    · rw [up_eq]
/-- things that are it, one by one -/
theorem s2_are {a k n x y : Nat} {l : List Nat} {O : Mem_} (hk : k < 8) (ha : a ≤ 5) (hl : l.length = a) (hx : x < 16) (hy : y < 16) (h1 : ∀ j, j < a → O 7 0 1 j = nI (l.getD j 0)) (h5 : O 7 0 5 0 = nI a) (g0 : O 7 0 2 (3 * k) = nI x) (g1 : O 7 0 2 (3 * k + 1) = nI y) (g2 : O 7 0 2 (3 * k + 2) = nI 0) :
    ∃ O1, U2 k O O1 ∧ O1 7 0 2 (3 * k) = nI x ∧ O1 7 0 2 (3 * k + 1) = nI y ∧ O1 7 0 2 (3 * k + 2) = nI (areL l (x, y)) ∧ ex 10 129 279 [some (vr 6 0 0), some (vr 8 0 0), some (vi (nI 0)), some (vr 7 0 1), some (vr 7 0 2), some (vr 7 0 3), some (vr 7 0 4), some (vr 7 0 5), some (vr 7 0 6), none, none, some (vi (nI n)), some (vi (nI k)), none, some (vi (nI 0))] [] O = ex 10 129 279 [some (vr 6 0 0), some (vr 8 0 0), some (vi (nI 0)), some (vr 7 0 1), some (vr 7 0 2), some (vr 7 0 3), some (vr 7 0 4), some (vr 7 0 5), some (vr 7 0 6), none, none, some (vi (nI n)), some (vi (nI k)), none, some (vi (nI a))] [] O1 := by
  refine Exists.elim (lp_i (fun t (O : Mem_) => ex 10 129 279 [some (vr 6 0 0), some (vr 8 0 0), some (vi (nI 0)), some (vr 7 0 1), some (vr 7 0 2), some (vr 7 0 3), some (vr 7 0 4), some (vr 7 0 5), some (vr 7 0 6), none, none, some (vi (nI n)), some (vi (nI k)), none, some (vi (nI t))] [] O) (fun t O' => U2 k O O' ∧ O' 7 0 2 (3 * k) = nI x ∧ O' 7 0 2 (3 * k + 1) = nI y ∧ O' 7 0 2 (3 * k + 2) = nI (ms t (isQ l (x, y)))) a ?_ O ⟨U2.rf, g0, g1, g2⟩) ?_
  · intro t O' ht ⟨u, f0, f1, f2⟩
    have hm : O' 7 0 1 t = nI (l.getD t 0) := by rw [u.2.1 1 (by decide)]; exact h1 t ht
    have h50 : O' 7 0 5 0 = nI a := by rw [u.2.1 5 (by decide)]; exact h5
    have hms : ms t (isQ l (x, y)) < 2 ^ t := ms_lt _ t
    have h2t : 2 ^ t ≤ 2 ^ 5 := Nat.pow_le_pow_right (by decide) (by omega)
    have to327 : ∃ q : Bool, q = isQ l (x, y) t ∧ ex 10 129 279 [some (vr 6 0 0), some (vr 8 0 0), some (vi (nI 0)), some (vr 7 0 1), some (vr 7 0 2), some (vr 7 0 3), some (vr 7 0 4), some (vr 7 0 5), some (vr 7 0 6), none, none, some (vi (nI n)), some (vi (nI k)), none, some (vi (nI t))] [] O' = ex 10 129 327 [some (vr 6 0 0), some (vr 8 0 0), some (vi (nI 0)), some (vr 7 0 1), some (vr 7 0 2), some (vr 7 0 3), some (vr 7 0 4), some (vr 7 0 5), some (vr 7 0 6), none, none, some (vi (nI n)), some (vi (nI k)), none, some (vi (nI t))] [vi (bI q)] O' := by
      have st := sL_told_279 9 O' (nI 0) (nI n) (nI k) (nI t)
      have i0 : (nI 0).toNatClampNeg = 0 := by decide
      rw [if_pos (by decide), i0, h50, if_pos (by rw [nI_ltI (by omega) (by omega)]; exact ht), pk_mul, nI_add, if_pos (ib_n (by omega) (by decide)), if_pos (ib_n (by omega) (by decide)), nI_clamp (by omega), nI_clamp (by omega), nI_clamp (by omega), f0, f1, hm, q_dn, q_and] at st
      have d1 : (nI (dn x (l.getD t 0)) = nI 0) ↔ (l.getD t 0 &&& x = x) := by
        rw [nI_eq (Nat.lt_of_le_of_lt (dn_le _ _) (by omega)) (by decide)]
        exact dn_0 _ _
      have d2 : (nI (y &&& l.getD t 0) = nI 0) ↔ (l.getD t 0 &&& y = 0) := by
        rw [nI_eq (Nat.lt_of_le_of_lt Nat.and_le_left (by omega)) (by decide), Nat.and_comm]
      by_cases c1 : l.getD t 0 &&& x = x
      · rw [if_pos (d1.mpr c1), if_pos (ib_n (by omega) (by decide)), if_pos (ib_n (by omega) (by decide))] at st
        by_cases c2 : l.getD t 0 &&& y = 0
        · rw [if_pos (d2.mpr c2)] at st
          exact ⟨true, by rw [isQ_i, decide_eq_true c1, decide_eq_true c2]; rfl, st⟩
        · rw [if_neg (fun z => c2 (d2.mp z))] at st
          exact ⟨false, by rw [isQ_i, decide_eq_true c1, decide_eq_false c2]; rfl, st⟩
      · rw [if_neg (fun z => c1 (d1.mp z))] at st
        exact ⟨false, by rw [isQ_i, decide_eq_false c1]; rfl, st⟩
    obtain ⟨q, hq, e1⟩ := to327
    have st := sL_told_327 9 O' (nI 0) (nI n) (nI k) (nI t) (bI q)
    rw [pk_mul, nI_add, nI_add, nI_clamp (by omega), if_pos (ib_n (by omega) (by decide)), if_pos (ib_n (by omega) (by decide)), f2] at st
    cases q with
    | false =>
      rw [if_pos (show bI false = nI 0 from rfl), q_or] at st
      refine ⟨_, e1.trans st, u.u (by omega), by rw [up_ne (by omega)]; exact f0, by rw [up_ne (by omega)]; exact f1, ?_⟩
      rw [up_eq, ms_s, ← hq, Nat.or_zero]
      rfl
    | true =>
      rw [if_neg (by decide), if_pos (ib_n (by omega) (by decide)), q_shl t (by omega), q_or] at st
      refine ⟨_, e1.trans st, u.u (by omega), by rw [up_ne (by omega)]; exact f0, by rw [up_ne (by omega)]; exact f1, ?_⟩
      rw [up_eq, ms_s, ← hq]
      rfl
  · rintro O' ⟨e, u, f0, f1, f2⟩
    refine ⟨O', u, f0, f1, ?_, e⟩
    unfold areL
    rw [hl]
    exact f2
theorem s2_step {L a b c e n k : Nat} {l : List Nat} {M : List (Nat × Nat)} {O : Mem_} (h31 : L < 2 ^ 31) (hn : 0 < n) (hn16 : n ≤ 16) (ha : a ≤ 5) (hb : b ≤ 6) (hk : k < b) (h : S2 L a b c e k l M O) : ∃ q O', S2 L a b c e (k + 1) l (M ++ [q]) O' ∧
    ex 10 129 159 [some (vr 6 0 0), some (vr 8 0 0), some (vi (nI 0)), some (vr 7 0 1), some (vr 7 0 2), some (vr 7 0 3), some (vr 7 0 4), some (vr 7 0 5), some (vr 7 0 6), none, none, some (vi (nI (n - 1))), some (vi (nI k))] [] O = ex 10 129 159 [some (vr 6 0 0), some (vr 8 0 0), some (vi (nI 0)), some (vr 7 0 1), some (vr 7 0 2), some (vr 7 0 3), some (vr 7 0 4), some (vr 7 0 5), some (vr 7 0 6), none, none, some (vi (nI (n - 1))), some (vi (nI (k + 1)))] [] O' := by
  obtain ⟨x, y, O1, hx, hy, hxy, u1, x0, x1, x2, st1⟩ := s2_in h31 hn hn16 hb hk h
  obtain ⟨h1, h2, h3, h4, h5, h6, h7, h8, h9⟩ := h
  have hT := fl_le (f := lnT) (b := 11) (P := fun x => x < 16) (fun a => lnT_len) l h2
  have hM := fl_le (f := lnM) (b := 20) (P := fun q : Nat × Nat => q.1 < 16 ∧ q.2 < 16 ∧ q.1 &&& q.2 = 0) (fun a => lnM_len) M h5
  have hlen : (l.flatMap lnT ++ M.flatMap lnM).length ≤ 55 + 20 * k := by rw [List.length_append]; omega
  obtain ⟨O2, u2, y0, y1, y2, st2⟩ := s2_are (n := n - 1) (k := k) (x := x) (y := y) (l := l) (O := O1) (by omega) ha h1 hx hy (fun j hj => by rw [u1.2.1 1 (by decide)]; exact h3 j hj) (by rw [u1.2.1 5 (by decide)]; exact h8.1) x0 x1 x2
  have c12 : ∀ c, c ≠ 7 → O2 c = O c := fun c z => (u2.1 c z).trans (u1.1 c z)
  have p12 : ∀ p, p ≠ 2 → O2 7 0 p = O 7 0 p := fun p z => (u2.2.1 p z).trans (u1.2.1 p z)
  have j12 : ∀ j, j < 3 * k ∨ 3 * k + 3 ≤ j → O2 7 0 2 j = O 7 0 2 j := fun j z => (u2.2.2 j z).trans (u1.2.2 j z)
  have t2 : TQ O2 (l.flatMap lnT ++ M.flatMap lnM) := h7.fr c12 (p12 6 (by decide))
  have wm : w_means.length = 5 := rfl
  have wn : (32 :: w_not).length = 4 := rfl
  have lx := txL_16 x hx
  have ly := txL_16 y hy
  obtain ⟨O3, e3, t3, f3⟩ := q_word wl_means t2 (by omega)
  obtain ⟨O4, e4, t4, f4⟩ := q_letters (a := x) (by omega) t3 (by rw [List.length_append]; omega)
  have f34 := f3.trans f4
  -- to the semicolon
  obtain ⟨O5, st5, t5, f5⟩ : ∃ O5, ex 10 129 279 [some (vr 6 0 0), some (vr 8 0 0), some (vi (nI 0)), some (vr 7 0 1), some (vr 7 0 2), some (vr 7 0 3), some (vr 7 0 4), some (vr 7 0 5), some (vr 7 0 6), none, none, some (vi (nI (n - 1))), some (vi (nI k)), none, some (vi (nI a))] [] O2 = ex 10 129 418 [some (vr 6 0 0), some (vr 8 0 0), some (vi (nI 0)), some (vr 7 0 1), some (vr 7 0 2), some (vr 7 0 3), some (vr 7 0 4), some (vr 7 0 5), some (vr 7 0 6), none, none, some (vi (nI (n - 1))), some (vi (nI k))] [] O5 ∧ TQ O5 ((l.flatMap lnT ++ M.flatMap lnM) ++ (w_means ++ (txL x ++ (if y = 0 then [] else (32 :: w_not) ++ txL y)))) ∧ FrW O2 O5 := by
    have st := sL_told_279 9 O2 (nI 0) (nI (n - 1)) (nI k) (nI a)
    have i0 : (nI 0).toNatClampNeg = 0 := by decide
    have h50 : O2 7 0 5 0 = nI a := by rw [p12 5 (by decide)]; exact h8.1
    rw [if_pos (by decide), i0, h50, if_neg (by rw [nI_ltI (by omega) (by omega)]; omega)] at st
    simp only [e3, Option.bind_some] at st
    rw [pk_mul, if_pos (ib_n (by omega) (by decide)), nI_clamp (by omega), f3.2 2 (by decide), y0] at st
    simp only [e4, Option.bind_some] at st
    rw [nI_add, if_pos (ib_n (by omega) (by decide)), nI_clamp (by omega), f34.2 2 (by decide), y1] at st
    by_cases hy0 : y = 0
    · rw [if_neg (by rw [nI_ltI (by decide) (by omega)]; omega)] at st
      refine ⟨O4, st, ?_, f34⟩
      rw [if_pos hy0, List.append_nil, ← List.append_assoc]
      exact t4
    · obtain ⟨O5, e5, t5, f5⟩ := q_word wl_not t4 (by rw [List.length_append, List.length_append]; omega)
      obtain ⟨O6, e6, t6, f6⟩ := q_letters (a := y) (by omega) t5 (by rw [List.length_append, List.length_append, List.length_append]; omega)
      rw [if_pos (by rw [nI_ltI (by decide) (by omega)]; omega)] at st
      simp only [e5, Option.bind_some] at st
      rw [if_pos (ib_n (by omega) (by decide)), (f34.trans f5).2 2 (by decide), y1] at st
      simp only [e6, Option.bind_some] at st
      refine ⟨O6, st, ?_, (f34.trans f5).trans f6⟩
      rw [if_neg hy0]
      simp only [List.append_assoc] at t6 ⊢
      exact t6
  obtain ⟨O6, e6, t6, f6⟩ := q_put (c := 59) t5 (by decide) (by
    have : (if y = 0 then [] else (32 :: w_not) ++ txL y).length ≤ 11 := by
      split
      · exact Nat.zero_le _
      · rw [List.length_append]; omega
    simp only [List.length_append] at hlen this ⊢
    omega)
  have st6 := sL_told_418 9 O5 (nI 0) (nI (n - 1)) (nI k)
  rw [e6, Option.bind_some, nI_add] at st6
  have f56 := f5.trans f6
  refine ⟨(x, y), O6, ⟨h1, h2, fun j hj => ?_, by rw [List.length_append, h4]; rfl, fun q hq => ?_, fun j hj => ?_, ?_, h8.of ?_, ?_⟩, st1.trans (st2.trans (st5.trans st6))⟩
  · rw [f56.2 1 (by decide), p12 1 (by decide)]; exact h3 j hj
  · rcases List.mem_append.mp hq with hq | hq
    · exact h5 q hq
    · rw [List.mem_singleton.mp hq]; exact ⟨hx, hy, hxy⟩
  · rw [f56.2 2 (by decide)]
    by_cases ej : j = k
    · subst ej
      rw [gd_n h4]
      exact ⟨y0, y1, y2⟩
    · rw [gd_old (by omega), j12 _ (by omega), j12 _ (by omega), j12 _ (by omega)]
      exact h6 j (by omega)
  · have e : l.flatMap lnT ++ (M ++ [(x, y)]).flatMap lnM = (l.flatMap lnT ++ M.flatMap lnM) ++ (w_means ++ (txL x ++ (if y = 0 then [] else (32 :: w_not) ++ txL y))) ++ [59] := by
      rw [List.flatMap_append, List.flatMap_cons, List.flatMap_nil, List.append_nil]
      show l.flatMap lnT ++ (M.flatMap lnM ++ (w_means ++ (txL x ++ ((if y = 0 then [] else (32 :: w_not) ++ txL y) ++ [59])))) = _
      simp only [List.append_assoc]
    rw [e]
    exact t6
  · rw [f56.2 5 (by decide), p12 5 (by decide)]
  · rw [f56.1 8 (by decide) (by decide), c12 8 (by decide)]
    exact h9
end
