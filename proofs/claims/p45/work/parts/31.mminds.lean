/-! THE MODEL'S MINDS. -/
section
/-- what fits by the things that it was said of, and those that it was denied of -/
def fitSN (T : Td_) (S N : Nat) : Nat := ms (nM T) fun m => dn S (are T m) == 0 && (N &&& are T m == 0)
section
variable {T : Td_} {O : Mem_}
theorem b0 (x : Nat) : (x == 0) = decide (x = 0) := by rw [Bool.eq_iff_iff]; simp
theorem fitg_bit {x t : Nat} {so : Bool} (hx : x < nM T) (ht : t < nT T) : (fitg T t so).testBit x = ((are T x).testBit t == so) := by
  have e1 : (are T x).testBit t = isA T x t := by rw [are, ms_bit, decide_eq_true ht, Bool.true_and]
  have e2 : (isIt T t).testBit x = isA T x t := by rw [isIt, ms_bit, decide_eq_true hx, Bool.true_and]
  rw [e1]
  cases so with
  | true => rw [fitg, if_pos rfl, e2]; simp
  | false =>
    rw [fitg, if_neg (by decide), dn_bit, e2, Nat.testBit_two_pow_sub_one, decide_eq_true hx]
    simp
theorem dn_or (a b c : Nat) : dn (a ||| b) c = 0 ↔ dn a c = 0 ∧ dn b c = 0 := by
  have key : ∀ x : Nat, x = 0 ↔ ∀ i, x.testBit i = false := fun x => ⟨fun h i => by rw [h, Nat.zero_testBit], fun h => Nat.eq_of_testBit_eq (fun i => by rw [h i, Nat.zero_testBit])⟩
  rw [key, key (dn a c), key (dn b c)]
  simp only [dn_bit, Nat.testBit_or]
  constructor
  · intro h
    refine ⟨fun i => ?_, fun i => ?_⟩ <;> have := h i <;> revert this <;> cases a.testBit i <;> cases b.testBit i <;> cases c.testBit i <;> decide
  · intro ⟨h1, h2⟩ i
    have := h1 i
    have := h2 i
    revert this
    revert this
    cases a.testBit i <;> cases b.testBit i <;> cases c.testBit i <;> decide
theorem dn_pow (t c : Nat) : dn (2 ^ t) c = 0 ↔ c.testBit t = true := by
  constructor
  · intro h
    have := congrArg (fun z => z.testBit t) h
    simp only [dn_bit, Nat.testBit_two_pow_self, Nat.zero_testBit, Bool.true_and] at this
    cases hc : c.testBit t
    · rw [hc] at this; cases this
    · rfl
  · intro h
    apply Nat.eq_of_testBit_eq
    intro i
    rw [dn_bit, Nat.zero_testBit]
    by_cases e : t = i
    · subst e; rw [h, Bool.not_true, Bool.and_false]
    · rw [Nat.testBit_two_pow_of_ne e, Bool.false_and]
theorem and_pow (t c : Nat) : 2 ^ t &&& c = 0 ↔ c.testBit t = false := by
  constructor
  · intro h
    have := congrArg (fun z => z.testBit t) h
    simpa [Nat.testBit_and, Nat.testBit_two_pow_self] using this
  · intro h
    apply Nat.eq_of_testBit_eq
    intro i
    rw [Nat.testBit_and, Nat.zero_testBit]
    by_cases e : t = i
    · subst e; rw [h, Bool.and_false]
    · rw [Nat.testBit_two_pow_of_ne e, Bool.false_and]
theorem or_and0 (a b c : Nat) : (a ||| b) &&& c = 0 ↔ a &&& c = 0 ∧ b &&& c = 0 := by
  rw [Nat.and_or_distrib_right, Nat.or_eq_zero_iff]
theorem fitSN_t {S N t : Nat} (ht : t < nT T) : fitSN T (S ||| 2 ^ t) N = fitSN T S N &&& fitg T t true := by
  apply Nat.eq_of_testBit_eq
  intro m
  rw [Nat.testBit_and, fitSN, fitSN, ms_bit, ms_bit]
  by_cases hm : m < nM T
  · rw [fitg_bit hm ht, decide_eq_true hm]
    rw [Bool.eq_iff_iff]
    simp only [Bool.true_and, Bool.and_eq_true, beq_iff_eq, dn_or, dn_pow]
    constructor
    · rintro ⟨⟨a, b⟩, c⟩; exact ⟨⟨a, c⟩, b⟩
    · rintro ⟨⟨a, c⟩, b⟩; exact ⟨⟨a, b⟩, c⟩
  · rw [decide_eq_false hm]; simp
theorem fitSN_f {S N t : Nat} (ht : t < nT T) : fitSN T S (N ||| 2 ^ t) = fitSN T S N &&& fitg T t false := by
  apply Nat.eq_of_testBit_eq
  intro m
  rw [Nat.testBit_and, fitSN, fitSN, ms_bit, ms_bit]
  by_cases hm : m < nM T
  · rw [fitg_bit hm ht, decide_eq_true hm]
    rw [Bool.eq_iff_iff]
    simp only [Bool.true_and, Bool.and_eq_true, beq_iff_eq, or_and0, and_pow]
    constructor
    · rintro ⟨a, b, c⟩; exact ⟨⟨a, b⟩, c⟩
    · rintro ⟨⟨a, b⟩, c⟩; exact ⟨a, b, c⟩
  · rw [decide_eq_false hm]; simp
theorem chs_lt {f k s : Nat} {th : Nat → Option Nat} (hT : WT T) (hf : f < 2 ^ nM T) : chs T f k s th < 2 ^ nM T := by
  refine Nat.lt_of_le_of_lt (Nat.le_of_testBit fun i hi => ?_) hf
  rw [chs, ms_bit] at hi
  simp only [Bool.and_eq_true] at hi
  exact hi.2.1.1
end
end
