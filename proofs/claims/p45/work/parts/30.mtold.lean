/-! THE MODEL'S TOLD. -/
section
theorem lg_lt (x y : Int64) : (lg_cmp x y < nI 0) ↔ x < y := by
  unfold lg_cmp
  by_cases h1 : x > y
  · rw [if_pos h1]
    have : ¬ x < y := fun q => by
      have a := Int64.lt_iff_toInt_lt.mp h1
      have b := Int64.lt_iff_toInt_lt.mp q
      omega
    exact ⟨fun q => absurd q (by decide), fun q => absurd q this⟩
  · rw [if_neg h1]
    by_cases h2 : x = y
    · rw [if_pos h2]
      subst h2
      exact ⟨fun q => absurd q (by decide), fun q => by have := Int64.lt_iff_toInt_lt.mp q; omega⟩
    · rw [if_neg h2]
      refine ⟨fun _ => ?_, fun _ => by decide⟩
      refine Int64.lt_iff_toInt_lt.mpr ?_
      have a : ¬ y.toInt < x.toInt := fun q => h1 (Int64.lt_iff_toInt_lt.mpr q)
      have b : x.toInt ≠ y.toInt := fun q => h2 (Int64.toInt_inj.mp q)
      omega
theorem lg_gt (x y : Int64) : (nI 0 < lg_cmp x y) ↔ y < x := by
  unfold lg_cmp
  by_cases h1 : x > y
  · rw [if_pos h1]
    exact ⟨fun _ => h1, fun _ => by decide⟩
  · rw [if_neg h1]
    by_cases h2 : x = y
    · rw [if_pos h2]
      exact ⟨fun q => absurd q (by decide), fun q => absurd q h1⟩
    · rw [if_neg h2]
      exact ⟨fun q => absurd q (by decide), fun q => absurd q h1⟩
theorem i64_lt (x y : Int32) : (Int32.toInt64 x < Int32.toInt64 y) ↔ x < y := by
  rw [Int64.lt_iff_toInt_lt, Int32.toInt_toInt64, Int32.toInt_toInt64, Int32.lt_iff_toInt_lt]
def inI (x l h : Int32) : Bool := !decide (x < l) && !decide (h < x)
theorem inI_h (x : Int32) {n : Nat} (hn : n < 2 ^ 30) : inI x (nI 0) (nI n - nI 1) = hsI x n := by
  unfold inI hsI
  by_cases h0 : x < nI 0
  · simp [h0]
  · obtain ⟨j, hj, rfl⟩ := nI_of h0
    have : (nI n - nI 1 < nI j) ↔ ¬ (nI j < nI n) := by
      rw [Int32.lt_iff_toInt_lt, pk_sub_toInt hn (by decide), nI_toInt hj, nI_ltI hj (by omega)]
      omega
    have this2 : decide (nI n - nI 1 < nI j) = !decide (nI j < nI n) := by rw [← decide_not]; exact decide_eq_decide.mpr this
    rw [decide_eq_false h0, this2, Bool.not_not]
theorem inI_n {j a b : Nat} (hj : j < 2 ^ 31) (ha : a < 2 ^ 31) (hb : b < 2 ^ 31) : inI (nI j) (nI a) (nI b) = (decide (a ≤ j) && decide (j ≤ b)) := by
  unfold inI
  have e1 : decide (nI j < nI a) = decide (j < a) := decide_eq_decide.mpr (nI_ltI hj ha)
  have e2 : decide (nI b < nI j) = decide (b < j) := decide_eq_decide.mpr (nI_ltI hb hj)
  rw [e1, e2]
  by_cases h1 : a ≤ j <;> by_cases h2 : j ≤ b <;> simp [h1, h2] <;> omega
theorem inI_c (x : Int32) {b : Nat} (hb : b < 2 ^ 30) : inI x (nI 0) (nI b) = hsI x (b + 1) := by
  unfold inI hsI
  by_cases h0 : x < nI 0
  · simp [h0]
  · obtain ⟨j, hj, rfl⟩ := nI_of h0
    have : (nI b < nI j) ↔ ¬ (nI j < nI (b + 1)) := by
      rw [nI_ltI (by omega) hj, nI_ltI hj (by omega)]
      omega
    have this2 : decide (nI b < nI j) = !decide (nI j < nI (b + 1)) := by rw [← decide_not]; exact decide_eq_decide.mpr this
    rw [decide_eq_false h0, this2, Bool.not_not]
theorem itn_cnt (b : Nat) : ∀ n, itn (fun k a => a + (b.testBit k).toNat) n 0 = cnt b n
  | 0 => rfl
  | n + 1 => by
    show itn _ n 0 + _ = _
    rw [itn_cnt b n]; rfl
theorem cnt_hi {b k : Nat} (hb : b < 2 ^ k) : ∀ n, k ≤ n → cnt b n = cnt b k
  | 0, h => by rw [Nat.le_zero.mp h]
  | n + 1, h => by
    by_cases e : k = n + 1
    · rw [e]
    · show cnt b n + (b.testBit n).toNat = _
      rw [cnt_hi hb n (by omega), Nat.testBit_lt_two_pow (Nat.lt_of_lt_of_le hb (Nat.pow_le_pow_right (by decide) (by omega)))]
      rfl
theorem cnt_or {a b : Nat} (h : a &&& b = 0) : ∀ n, cnt (a ||| b) n = cnt a n + cnt b n
  | 0 => rfl
  | n + 1 => by
    unfold cnt
    rw [cnt_or h n, Nat.testBit_or]
    have : (a.testBit n && b.testBit n) = false := by rw [← Nat.testBit_and, h, Nat.zero_testBit]
    cases ha : a.testBit n <;> cases hb : b.testBit n <;> simp_all <;> omega
section
variable {T : Td_} {O : Mem_}
theorem itn_ms0 (f : Nat → Bool) : ∀ n, itn (fun k a => if f k = true then a ||| 2 ^ k else a ||| 0) n 0 = ms n f
  | 0 => rfl
  | n + 1 => by
    show (if f n = true then itn _ n 0 ||| 2 ^ n else itn _ n 0 ||| 0) = _
    rw [itn_ms0 f n, Nat.or_zero]; rfl
/-- the plainest of a mask, as least of all -/
def isPl (T : Td_) (b : Nat) (n : Nat) (o : Option Nat) : Prop := match o with
  | none => ∀ m, m < n → b.testBit m = false
  | some x => x < n ∧ b.testBit x = true ∧ ∀ m, m < n → b.testBit m = true → asks T x < asks T m ∨ (asks T x = asks T m ∧ x ≤ m)
theorem isPl_uniq {b n : Nat} {o p : Option Nat} (h : isPl T b n o) (g : isPl T b n p) : o = p := by
  cases o with
  | none => cases p with
    | none => rfl
    | some y => have := h y g.1; rw [g.2.1] at this; cases this
  | some x => cases p with
    | none => have := g x h.1; rw [h.2.1] at this; cases this
    | some y =>
      have h1 := h.2.2 y g.1 g.2.1
      have h2 := g.2.2 x h.1 h.2.1
      congr 1
      omega
theorem find_pw {R : Nat → Nat → Prop} {c : Nat → Bool} : ∀ {l : List Nat}, l.Pairwise R → ∀ {x : Nat}, l.find? c = some x → ∀ y, y ∈ l → c y = true → y = x ∨ R x y
  | [], _, _, h, _, _, _ => by cases h
  | a :: l, hp, x, h, y, hy, hc => by
    rw [List.find?_cons] at h
    cases ha : c a with
    | true =>
      rw [ha] at h
      cases h
      rcases List.mem_cons.mp hy with e | e
      · exact Or.inl e
      · exact Or.inr (List.rel_of_pairwise_cons hp e)
    | false =>
      rw [ha] at h
      rcases List.mem_cons.mp hy with e | e
      · rw [e, ha] at hc; cases hc
      · exact find_pw (List.Pairwise.of_cons hp) h y e hc
theorem fpl_pw : (fpl T).Pairwise fun x y => asks T x < asks T y ∨ (asks T x = asks T y ∧ x ≤ y) := by
  unfold fpl
  rw [List.pairwise_flatMap]
  refine ⟨fun a _ => ?_, ?_⟩
  · refine List.Pairwise.imp_of_mem (R := fun x y => x ≤ y) (fun {x y} hx hy hxy => ?_) ((List.pairwise_le_range).filter _)
    have h1 := beq_iff_eq.mp (List.mem_filter.mp hx).2
    have h2 := beq_iff_eq.mp (List.mem_filter.mp hy).2
    exact Or.inr ⟨h1.trans h2.symm, hxy⟩
  · refine List.Pairwise.imp (R := fun x y => x < y) (fun {a b} hab x hx y hy => ?_) List.pairwise_lt_range
    have h1 := beq_iff_eq.mp (List.mem_filter.mp hx).2
    have h2 := beq_iff_eq.mp (List.mem_filter.mp hy).2
    exact Or.inl (by omega)
theorem mem_fpl' {m : Nat} (h : m < nM T) : m ∈ fpl T := by
  unfold fpl
  refine List.mem_flatMap.mpr ⟨asks T m, List.mem_range.mpr (Nat.lt_succ_of_le (cnt_le _ 8)), List.mem_filter.mpr ⟨List.mem_range.mpr h, beq_self_eq_true _⟩⟩
theorem plainest_is (b : Nat) : isPl T b (nM T) (plainest T b) := by
  cases h : plainest T b with
  | none =>
    intro m hm
    have := List.find?_eq_none.mp h m (mem_fpl' hm)
    simpa using this
  | some x =>
    have hx := plainest_lt h
    refine ⟨hx.1, hx.2, fun m hm hb => ?_⟩
    rcases find_pw fpl_pw h m (mem_fpl' hm) hb with e | e
    · exact Or.inr ⟨by rw [e], by omega⟩
    · exact e
end
end
