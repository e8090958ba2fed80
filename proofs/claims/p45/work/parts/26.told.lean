/-! THE CLASS'S TOLD: what its calls answer of what is told. -/
section
theorem n_neg {n : Nat} (h : n < 2 ^ 31) : (nI n < nI 0) ↔ False := by rw [nI_ltI h (by decide)]; simp
theorem m_isIn (d : Nat) (O : Mem_) {i b : Nat} (hi : i < 31) (hb : b < 2 ^ 31) : ex (d + 1) 109 0 [some (vi (nI i)), some (vi (nI b))] [] O = some (bI (b.testBit i), O) := by
  rw [sX6_isIn_0]
  simp (disch := omega) only [nI_ltI, nI_eq, nI_add, nI_clamp, ib_n, pk_mul, q_and, q_or, q_dn, q_shl, q_shlm, q_p1, if_true, if_false, ↓reduceIte, Option.bind_some, bI_0, bI_1, bI_01, b_or, Nat.not_lt_zero, Nat.zero_add, Bool.false_eq_true, Bool.true_eq_false, or_false, or_true, true_or, false_or, q_bit, hi]
  cases b.testBit i <;> simp [bI]
theorem m_isInO (d : Nat) (O : Mem_) {o : Option Nat} {b : Nat} (hi : ∀ i, o = some i → i < 31) (hb : b < 2 ^ 31) : ex (d + 1) 109 0 [some (vi (oI o)), some (vi (nI b))] [] O = some (bI (inO o b), O) := by
  cases o with
  | none => rw [sX6_isIn_0, if_pos oI_lt0]; rfl
  | some i => exact m_isIn d O (hi i rfl) hb
/-- x is one of the first n -/
def hsI (x : Int32) (n : Nat) : Bool := !decide (x < nI 0) && decide (x < nI n)
theorem hsI_n {j n : Nat} (hj : j < 2 ^ 31) (hn : n < 2 ^ 31) : hsI (nI j) n = decide (j < n) := by
  unfold hsI
  rw [decide_eq_false (by rw [nI_ltI hj (by decide)]; omega), decide_eq_decide.mpr (nI_ltI hj hn)]
  rfl
theorem hsI_none {n : Nat} : hsI (oI none) n = false := by
  unfold hsI
  rw [decide_eq_true oI_lt0]; rfl
theorem hsI_of {x : Int32} {n : Nat} (hn : n < 2 ^ 31) (h : hsI x n = true) : ∃ j, j < n ∧ x = nI j := by
  unfold hsI at h
  have ⟨h1, h2⟩ := (Bool.and_eq_true _ _).mp h
  have h1 : ¬ x < nI 0 := fun q => by rw [decide_eq_true q] at h1; cases h1
  have h2 := of_decide_eq_true h2
  obtain ⟨j, hj, rfl⟩ := nI_of h1
  exact ⟨j, (nI_ltI hj hn).mp h2, rfl⟩
/-- the class's rows hold what is told -/
def CT (R : Nat → Nat → Int32) (T : Td_) : Prop :=
  (R 0 0 = nI (nT T) ∧ R 0 1 = nI (nM T) ∧ R 0 2 = nI (nS T) ∧ R 0 3 = nI (nK T)) ∧
  (∀ t, t < nT T → R 5 t = nI (mk_ T t) ∧ R 6 t = nI (isIt T t)) ∧
  (∀ m, m < nM T → R 7 m = nI (hs_ T m) ∧ R 8 m = nI (hn_ T m) ∧ R 9 m = nI (asks T m) ∧ R 10 m = nI (are T m) ∧ R 11 m = nI (alike T m) ∧ R 12 m = nI ((fpl T).getD m 0)) ∧
  (∀ s, s < nS T → R 13 s = nI (tg_ T s)) ∧
  (∀ k, k < nK T → R 14 k = nI (so_ T k) ∧ R 15 k = nI (se_ T k) ∧ R 16 k = oI (fe_ T k) ∧ R 17 k = bI (ul_ T k) ∧ R 18 k = nI (ch_ T k) ∧ R 19 k = nI (can T k))
theorem has_of {x c : Int32} {n : Nat} {O : Mem_} (h : c = nI n) : (if x < nI 0 then some (nI 0, O) else (if x < c then some (nI 1, O) else some (nI 0, O))) = some (bI (hsI x n), O) := by
  subst h
  unfold hsI
  by_cases h1 : x < nI 0
  · rw [if_pos h1, decide_eq_true h1]; rfl
  · rw [if_neg h1, decide_eq_false h1]
    by_cases h2 : x < nI n
    · rw [if_pos h2, decide_eq_true h2]; rfl
    · rw [if_neg h2, decide_eq_false h2]; rfl
section
variable {T : Td_} {O : Mem_} {n : Nat}
theorem are_lt (hT : WT T) (m : Nat) : are T m < 256 := by
  exact ms_lt' _ (k := 8) hT.1
theorem isIt_lt (hT : WT T) (t : Nat) : isIt T t < 4096 := ms_lt' _ (k := 12) hT.2.1
theorem can_lt (hT : WT T) (k : Nat) : can T k < 4096 := ms_lt' _ (k := 12) hT.2.1
theorem alike_lt (hT : WT T) (m : Nat) : alike T m < 4096 := ms_lt' _ (k := 12) hT.2.1
theorem tgA_lt (hT : WT T) (s : Nat) : tgA T s < 256 := are_lt hT _
theorem tgL_lt (hT : WT T) (s : Nat) : tgL T s < 4096 := alike_lt hT _
theorem allM_lt (hT : WT T) : 2 ^ nM T - 1 < 4096 := by
  have : 2 ^ nM T ≤ 2 ^ 12 := Nat.pow_le_pow_right (by decide) hT.2.1
  have := Nat.two_pow_pos (nM T)
  omega
theorem fitg_lt (hT : WT T) (t : Nat) (so : Bool) : fitg T t so < 4096 := by
  unfold fitg
  cases so
  · exact Nat.lt_of_le_of_lt (dn_le _ _) (allM_lt hT)
  · exact isIt_lt hT t
theorem m_hasThing (d : Nat) (x : Int32) (h : CT (O 4 n) T) : ex (d + 1) 43 0 [some (vr 4 n 0), some (vi x)] [] O = some (bI (hsI x (nT T)), O) := by
  rw [sX4_hasThing_0]; exact has_of h.1.1
theorem m_hasMeaning (d : Nat) (x : Int32) (h : CT (O 4 n) T) : ex (d + 1) 44 0 [some (vr 4 n 0), some (vi x)] [] O = some (bI (hsI x (nM T)), O) := by
  rw [sX4_hasMeaning_0]; exact has_of h.1.2.1
theorem m_hasSound (d : Nat) (x : Int32) (h : CT (O 4 n) T) : ex (d + 1) 45 0 [some (vr 4 n 0), some (vi x)] [] O = some (bI (hsI x (nS T)), O) := by
  rw [sX4_hasSound_0]; exact has_of h.1.2.2.1
theorem m_hasKind (d : Nat) (x : Int32) (h : CT (O 4 n) T) : ex (d + 1) 46 0 [some (vr 4 n 0), some (vi x)] [] O = some (bI (hsI x (nK T)), O) := by
  rw [sX4_hasKind_0]; exact has_of h.1.2.2.2
theorem m_areKinds (d : Nat) (x : Int32) (h : CT (O 4 n) T) (hT : WT T) : ex (d + 1) 47 0 [some (vr 4 n 0), some (vi x)] [] O = some (bI (hsI x (2 ^ nK T)), O) := by
  rw [sX4_areKinds_0]
  have := hT.2.2.2.1
  exact has_of (by rw [h.1.2.2.2, q_shl _ (by omega)])
theorem m_allMeanings (d : Nat) (h : CT (O 4 n) T) (hT : WT T) : ex (d + 1) 49 0 [some (vr 4 n 0)] [] O = some (nI (2 ^ nM T - 1), O) := by
  have := hT.2.1
  rw [sX4_allMeanings_0, h.1.2.1, q_shlm _ (by omega)]
theorem m_allKinds (d : Nat) (h : CT (O 4 n) T) (hT : WT T) : ex (d + 1) 50 0 [some (vr 4 n 0)] [] O = some (nI (2 ^ nK T - 1), O) := by
  have := hT.2.2.2.1
  rw [sX4_allKinds_0, h.1.2.2.2, q_shlm _ (by omega)]
theorem mem_fpl {m : Nat} (h : m ∈ fpl T) : m < nM T := by
  unfold fpl at h
  obtain ⟨a, -, h⟩ := List.mem_flatMap.mp h
  exact List.mem_range.mp (List.mem_filter.mp h).1
theorem cnt_le (a : Nat) : ∀ k, cnt a k ≤ k
  | 0 => Nat.le_refl _
  | k + 1 => by
    unfold cnt
    have := cnt_le a k
    have : (a.testBit k).toNat ≤ 1 := by cases a.testBit k <;> decide
    omega
theorem count_range {N c : Nat} (h : c < N) : (List.range N).count c = 1 := by
  induction N with
  | zero => omega
  | succ N ih =>
    rw [List.range_succ, List.count_append, List.count_singleton]
    by_cases hc : c < N
    · rw [ih hc]
      have : ¬ N = c := by omega
      simp [this]
    · have e : N = c := by omega
      subst e
      have : (List.range N).count N = 0 := List.count_eq_zero.mpr (fun q => by have := List.mem_range.mp q; omega)
      rw [this]; simp
theorem fpl_count (c : Nat → Nat) : ∀ (N M : Nat), (∀ m, m < M → c m < N) → ((List.range N).flatMap fun a => (List.range M).filter fun m => c m == a).length = M := by
  intro N M
  induction M with
  | zero => intro _; induction List.range N with
    | nil => rfl
    | cons x l ih => simpa using ih
  | succ M ih =>
    intro h
    have hc := h M (by omega)
    have e : ∀ L : List Nat, (L.flatMap fun a => (List.range (M + 1)).filter fun m => c m == a).length = (L.flatMap fun a => (List.range M).filter fun m => c m == a).length + L.count (c M) := by
      intro L
      induction L with
      | nil => rfl
      | cons x L ihL =>
        rw [List.flatMap_cons, List.flatMap_cons, List.length_append, List.length_append, ihL, List.range_succ, List.filter_append, List.length_append, List.count_cons]
        by_cases hx : x = c M
        · subst hx; simp; omega
        · have : ¬ c M = x := fun q => hx q.symm
          simp [this, hx]; omega
    rw [e, ih (fun m hm => h m (by omega)), count_range hc]
theorem fpl_len : (fpl T).length = nM T := fpl_count _ 9 (nM T) (fun m _ => Nat.lt_succ_of_le (cnt_le _ 8))
theorem find_getD (l : List Nat) (c : Nat → Bool) : l.find? c = ((List.range l.length).find? (fun i => c (l.getD i 0))).map (fun i => l.getD i 0) := by
  induction l with
  | nil => rfl
  | cons x l ih =>
    rw [List.find?_cons, List.length_cons, List.range_succ_eq_map, List.find?_cons]
    have h0 : (x :: l).getD 0 0 = x := rfl
    simp only [h0]
    cases hx : c x with
    | true => rfl
    | false =>
      simp only [List.find?_map, Option.map_map]
      exact ih
theorem m_plainest (d : Nat) {b : Nat} (hb : b < 2 ^ 31) (h : CT (O 4 n) T) (hT : WT T) : ex (d + 2) 51 0 [some (vr 4 n 0), some (vi (nI b))] [] O = some (oI (plainest T b), O) := by
  have h12 := hT.2.1
  rw [sX4_plainest_0]
  refine (lp_f (fun i => ex (d + 2) 51 2 [some (vr 4 n 0), some (vi (nI b)), some (vi (nI i))] [] O) (fun i => b.testBit ((fpl T).getD i 0)) (fun i => some (nI ((fpl T).getD i 0), O)) (nM T) (fun i hi => ?_)).trans ?_
  · have hf : (fpl T).getD i 0 < nM T := by
      have hl : i < (fpl T).length := by rw [fpl_len]; exact hi
      rw [List.getD_eq_getElem?_getD, List.getElem?_eq_getElem hl, Option.getD_some]
      exact mem_fpl (List.getElem_mem hl)
    refine (sX4_plainest_2 ..).trans ?_
    simp (disch := omega) only [nI_ltI, nI_eq, nI_add, nI_clamp, ib_n, pk_mul, q_and, q_or, q_dn, q_shl, q_shlm, q_p1, if_true, if_false, ↓reduceIte, Option.bind_some, bI_0, bI_1, bI_01, b_or, Nat.not_lt_zero, Nat.zero_add, Bool.false_eq_true, Bool.true_eq_false, or_false, or_true, true_or, false_or, h.1.2.1, (h.2.2.1 i hi).2.2.2.2.2, m_isIn, hi]
    cases b.testBit ((fpl T).getD i 0) <;> simp
  · unfold plainest
    rw [find_getD (fpl T), fpl_len]
    cases (List.range (nM T)).find? (fun i => b.testBit ((fpl T).getD i 0)) with
    | none =>
      refine (sX4_plainest_2 ..).trans ?_
      simp (disch := omega) only [nI_ltI, nI_eq, nI_add, nI_clamp, ib_n, pk_mul, q_and, q_or, q_dn, q_shl, q_shlm, q_p1, if_true, if_false, ↓reduceIte, Option.bind_some, bI_0, bI_1, bI_01, b_or, Nat.not_lt_zero, Nat.zero_add, Bool.false_eq_true, Bool.true_eq_false, or_false, or_true, true_or, false_or, h.1.2.1, Nat.lt_irrefl]
      rfl
    | some i => rfl
theorem m_fitting (d : Nat) {t : Nat} (so : Bool) (ht : t < nT T) (h : CT (O 4 n) T) (hT : WT T) : ex (d + 2) 52 0 [some (vr 4 n 0), some (vi (nI t)), some (vi (bI so))] [] O = some (nI (fitg T t so), O) := by
  have h8 := hT.1
  rw [sX4_fitting_0]
  simp (disch := omega) only [nI_ltI, nI_eq, nI_add, nI_clamp, ib_n, pk_mul, q_and, q_or, q_dn, q_shl, q_shlm, q_p1, if_true, if_false, ↓reduceIte, Option.bind_some, bI_0, bI_1, bI_01, b_or, Nat.not_lt_zero, Nat.zero_add, Bool.false_eq_true, Bool.true_eq_false, or_false, or_true, true_or, false_or, m_hasThing (h := h), hsI_n, m_allMeanings (h := h) (hT := hT), ht, decide_true, (h.2.1 t ht).2]
  cases so <;> simp [fitg]
theorem m_targetThings (d : Nat) {s : Nat} (hs : s < nS T) (h : CT (O 4 n) T) (hT : WT T) : ex (d + 2) 53 0 [some (vr 4 n 0), some (vi (nI s))] [] O = some (nI (tgA T s), O) := by
  have h4 := hT.2.2.1
  have h12 := hT.2.1
  have ht := hT.2.2.2.2.2.2.1 s hs
  rw [sX4_targetThings_0]
  simp (disch := omega) only [nI_ltI, nI_eq, nI_add, nI_clamp, ib_n, pk_mul, q_and, q_or, q_dn, q_shl, q_shlm, q_p1, if_true, if_false, ↓reduceIte, Option.bind_some, bI_0, bI_1, bI_01, b_or, Nat.not_lt_zero, Nat.zero_add, Bool.false_eq_true, Bool.true_eq_false, or_false, or_true, true_or, false_or, m_hasSound (h := h), m_hasMeaning (h := h), hsI_n, hs, ht, decide_true, h.2.2.2.1 s hs, (h.2.2.1 _ ht).2.2.2.1]
  rfl
theorem m_likeTarget (d : Nat) {s : Nat} (hs : s < nS T) (h : CT (O 4 n) T) (hT : WT T) : ex (d + 2) 54 0 [some (vr 4 n 0), some (vi (nI s))] [] O = some (nI (tgL T s), O) := by
  have h4 := hT.2.2.1
  have h12 := hT.2.1
  have ht := hT.2.2.2.2.2.2.1 s hs
  rw [sX4_likeTarget_0]
  simp (disch := omega) only [nI_ltI, nI_eq, nI_add, nI_clamp, ib_n, pk_mul, q_and, q_or, q_dn, q_shl, q_shlm, q_p1, if_true, if_false, ↓reduceIte, Option.bind_some, bI_0, bI_1, bI_01, b_or, Nat.not_lt_zero, Nat.zero_add, Bool.false_eq_true, Bool.true_eq_false, or_false, or_true, true_or, false_or, m_hasSound (h := h), m_hasMeaning (h := h), hsI_n, hs, ht, decide_true, h.2.2.2.1 s hs, (h.2.2.1 _ ht).2.2.2.2.1]
  rfl
theorem m_isTarget (d : Nat) {s t : Nat} (hs : s < nS T) (ht : t < 31) (h : CT (O 4 n) T) (hT : WT T) : ex (d + 3) 55 0 [some (vr 4 n 0), some (vi (nI s)), some (vi (nI t))] [] O = some (bI (isTg T s t), O) := by
  have := tgA_lt hT s
  rw [sX4_isTarget_0, m_targetThings _ hs h hT]
  simp (disch := omega) only [nI_ltI, nI_eq, nI_add, nI_clamp, ib_n, pk_mul, q_and, q_or, q_dn, q_shl, q_shlm, q_p1, if_true, if_false, ↓reduceIte, Option.bind_some, bI_0, bI_1, bI_01, b_or, Nat.not_lt_zero, Nat.zero_add, Bool.false_eq_true, Bool.true_eq_false, or_false, or_true, true_or, false_or, m_isIn]
  rfl
theorem itn_ms (f : Nat → Bool) : ∀ n, itn (fun k a => if f k = true then a ||| 2 ^ k else a) n 0 = ms n f
  | 0 => rfl
  | n + 1 => by
    show (if f n = true then itn _ n 0 ||| 2 ^ n else itn _ n 0) = _
    rw [itn_ms f n]; rfl
theorem itn_sm (f : Nat → Nat) : ∀ n, itn (fun k a => a + f k) n 0 = sm n f
  | 0 => rfl
  | n + 1 => by
    show itn _ n 0 + f n = _
    rw [itn_sm f n]; rfl
theorem m_kindsThatCan (d : Nat) {m : Nat} (hm : m < 12) (h : CT (O 4 n) T) (hT : WT T) : ex (d + 2) 56 0 [some (vr 4 n 0), some (vi (nI m))] [] O = some (nI (ms (nK T) fun k => (can T k).testBit m), O) := by
  have h6 := hT.2.2.2.1
  rw [sX4_kindsThatCan_0]
  refine (lp_n (fun k a => ex (d + 2) 56 4 [some (vr 4 n 0), some (vi (nI m)), some (vi (nI a)), some (vi (nI k))] [] O) (fun k a => if (can T k).testBit m = true then a ||| 2 ^ k else a) (nK T) (fun k a hk => ?_) 0).trans ?_
  · have := can_lt hT k
    refine (sX4_kindsThatCan_4 ..).trans ?_
    simp (disch := omega) only [nI_ltI, nI_eq, nI_add, nI_clamp, ib_n, pk_mul, q_and, q_or, q_dn, q_shl, q_shlm, q_p1, if_true, if_false, ↓reduceIte, Option.bind_some, bI_0, bI_1, bI_01, b_or, Nat.not_lt_zero, Nat.zero_add, Bool.false_eq_true, Bool.true_eq_false, or_false, or_true, true_or, false_or, h.1.2.2.2, (h.2.2.2.2 k hk).2.2.2.2.2, m_isIn, hk]
    cases (can T k).testBit m <;> simp
  · refine (sX4_kindsThatCan_4 ..).trans ?_
    simp (disch := omega) only [nI_ltI, nI_eq, nI_add, nI_clamp, ib_n, pk_mul, q_and, q_or, q_dn, q_shl, q_shlm, q_p1, if_true, if_false, ↓reduceIte, Option.bind_some, bI_0, bI_1, bI_01, b_or, Nat.not_lt_zero, Nat.zero_add, Bool.false_eq_true, Bool.true_eq_false, or_false, or_true, true_or, false_or, h.1.2.2.2, Nat.lt_irrefl, itn_ms]
theorem m_chances (d : Nat) {K : Nat} (hK : K < 2 ^ 31) (h : CT (O 4 n) T) (hT : WT T) : ex (d + 2) 58 0 [some (vr 4 n 0), some (vi (nI K))] [] O = some (nI (chc T K), O) := by
  have h6 := hT.2.2.2.1
  rw [sX4_chances_0]
  refine (lp_n (fun k a => ex (d + 2) 58 4 [some (vr 4 n 0), some (vi (nI K)), some (vi (nI a)), some (vi (nI k))] [] O) (fun k a => a + (if K.testBit k = true then ch_ T k else 0)) (nK T) (fun k a hk => ?_) 0).trans ?_
  · refine (sX4_chances_4 ..).trans ?_
    simp (disch := omega) only [nI_ltI, nI_eq, nI_add, nI_clamp, ib_n, pk_mul, q_and, q_or, q_dn, q_shl, q_shlm, q_p1, if_true, if_false, ↓reduceIte, Option.bind_some, bI_0, bI_1, bI_01, b_or, Nat.not_lt_zero, Nat.zero_add, Bool.false_eq_true, Bool.true_eq_false, or_false, or_true, true_or, false_or, h.1.2.2.2, (h.2.2.2.2 k hk).2.2.2.2.1, m_isIn, hk]
    cases K.testBit k <;> simp
  · refine (sX4_chances_4 ..).trans ?_
    simp (disch := omega) only [nI_ltI, nI_eq, nI_add, nI_clamp, ib_n, pk_mul, q_and, q_or, q_dn, q_shl, q_shlm, q_p1, if_true, if_false, ↓reduceIte, Option.bind_some, bI_0, bI_1, bI_01, b_or, Nat.not_lt_zero, Nat.zero_add, Bool.false_eq_true, Bool.true_eq_false, or_false, or_true, true_or, false_or, h.1.2.2.2, Nat.lt_irrefl, itn_sm]
    rfl
end
end
