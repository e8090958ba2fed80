/-! NUMBERS AND MASKS: what the program's words say, of natural numbers below 2^31. -/
section
theorem s_l : ∀ n, n < 32 → ((nI n &&& 31).toBitVec.smod 32).toNat = n := by decide +kernel
theorem q_shr (b i : Nat) (hb : b < 2 ^ 31) (hi : i < 32) : nI b >>> (nI i &&& (31:Int32)) = nI (b >>> i) := by
  rw [pk_shrN hb _ i (s_l i hi), Nat.shiftRight_eq_div_pow]
theorem q_shl (i : Nat) (hi : i < 31) : nI 1 <<< (nI i &&& (31:Int32)) = nI (2 ^ i) := by
  rw [pk_shlN _ i (s_l i (by omega)) (by
    rw [Nat.one_mul]
    exact Nat.pow_lt_pow_right (by decide) (by omega)), Nat.one_mul]
theorem q_and (a b : Nat) : nI a &&& nI b = nI (a &&& b) := by
  apply Int32.toBitVec_inj.mp
  rw [Int32.toBitVec_and]
  exact (BitVec.ofNat_and ..).symm
theorem q_or (a b : Nat) : nI a ||| nI b = nI (a ||| b) := by
  apply Int32.toBitVec_inj.mp
  rw [Int32.toBitVec_or]
  exact (BitVec.ofNat_or ..).symm
theorem q_xor (a b : Nat) : nI a ^^^ nI b = nI (a ^^^ b) := by
  apply Int32.toBitVec_inj.mp
  rw [Int32.toBitVec_xor]
  exact (BitVec.ofNat_xor ..).symm
/-- a's bits that are not b's -/
def dn (a b : Nat) : Nat := a ^^^ (a &&& b)
theorem dn_bit (a b i : Nat) : (dn a b).testBit i = (a.testBit i && !b.testBit i) := by
  unfold dn
  rw [Nat.testBit_xor, Nat.testBit_and]
  cases a.testBit i <;> cases b.testBit i <;> rfl
theorem dn_le (a b : Nat) : dn a b ≤ a := by
  apply Nat.le_of_testBit
  intro i h
  rw [dn_bit] at h
  exact ((Bool.and_eq_true _ _).mp h).1
theorem q_dn (a b : Nat) : nI a &&& (nI b ^^^ (-1)) = nI (dn a b) := by
  have h : ∀ x y : Int32, x &&& (y ^^^ (-1)) = x ^^^ (x &&& y) := fun x y => by
    apply Int32.toBitVec_inj.mp
    rw [Int32.toBitVec_and, Int32.toBitVec_xor, Int32.toBitVec_xor, Int32.toBitVec_and]
    apply BitVec.eq_of_getLsbD_eq
    intro i hi
    rw [BitVec.getLsbD_and, BitVec.getLsbD_xor, BitVec.getLsbD_xor, BitVec.getLsbD_and]
    have h1 : ((-1 : Int32).toBitVec).getLsbD i = true := by
      show (BitVec.allOnes 32).getLsbD i = true
      rw [BitVec.getLsbD_allOnes]
      exact decide_eq_true hi
    rw [h1]
    cases x.toBitVec.getLsbD i <;> cases y.toBitVec.getLsbD i <;> rfl
  rw [h, q_and, q_xor]
  rfl
theorem q_m1 (a : Nat) : nI a &&& (-1) = nI a := by
  have h : ∀ x : Int32, x &&& (-1) = x := fun x => by
    apply Int32.toBitVec_inj.mp
    rw [Int32.toBitVec_and]
    exact BitVec.and_allOnes
  exact h _
theorem q_shlm (n : Nat) (hn : n < 31) : nI 1 <<< (nI n &&& (31:Int32)) - nI 1 = nI (2 ^ n - 1) := by
  rw [q_shl n hn, pk_sub (Nat.two_pow_pos n)]
theorem q_p1 (n : Nat) : nI (2 ^ n) - nI 1 = nI (2 ^ n - 1) := pk_sub (Nat.two_pow_pos n)
theorem q_b1 (a : Nat) (ha : a < 2 ^ 31) : (nI a &&& nI 1 = nI 1) ↔ a.testBit 0 = true := by
  rw [q_and, nI_eq (Nat.lt_of_le_of_lt Nat.and_le_left ha) (by decide), Nat.and_one_is_mod, Nat.testBit_zero]
  exact decide_eq_true_iff.symm
theorem q_bit (b i : Nat) (hb : b < 2 ^ 31) (hi : i < 32) : ((nI b >>> (nI i &&& (31:Int32))) &&& nI 1 = nI 1) ↔ b.testBit i = true := by
  rw [q_shr b i hb hi, q_b1 _ (Nat.lt_of_le_of_lt (Nat.shiftRight_le _ _) hb), Nat.testBit_shiftRight, Nat.add_zero]
theorem q_bitv (b i : Nat) (hb : b < 2 ^ 31) (hi : i < 32) : ((nI b >>> (nI i &&& (31:Int32))) &&& nI 1) = bI (b.testBit i) := by
  rw [q_shr b i hb hi, q_and, Nat.and_one_is_mod]
  unfold bI
  rw [Nat.toNat_testBit, Nat.shiftRight_eq_div_pow]
theorem ib_n {j N : Nat} (h : j < N) (hN : N < 2 ^ 31) : ib (nI j) N = true := by
  unfold ib
  rw [nI_clamp (by omega), decide_eq_true h, decide_eq_true (nI_pos (by omega))]
  rfl
theorem ib_no {j N : Nat} (h : N ≤ j) (hj : j < 2 ^ 31) : ib (nI j) N = false := by
  unfold ib
  rw [nI_clamp hj, decide_eq_false (Nat.not_lt.mpr h), Bool.and_false]
theorem nI_m {j : Nat} : nI j - nI 1 = nI j + (-1) := by
  rw [Int32.sub_eq_add_neg]; rfl
theorem oI_none {j : Nat} (h : j < 2 ^ 31) : ¬ nI j = oI none := fun e => nI_pos h (by rw [e]; decide)
theorem oI_lt0 : (oI none < nI 0) := by decide
theorem oI_sn {j : Nat} (h : j < 2 ^ 31) : ¬ oI (some j) = oI none := oI_none h
theorem oI_inj {a b : Option Nat} (ha : ∀ i, a = some i → i < 2 ^ 31) (hb : ∀ i, b = some i → i < 2 ^ 31) : oI a = oI b ↔ a = b := by
  cases a with
  | none => cases b with
    | none => simp
    | some j => exact ⟨fun e => absurd e.symm (oI_none (hb j rfl)), fun e => by cases e⟩
  | some i => cases b with
    | none => exact ⟨fun e => absurd e (oI_none (ha i rfl)), fun e => by cases e⟩
    | some j => exact ⟨fun e => by rw [(nI_eq (ha i rfl) (hb j rfl)).mp e], fun e => by rw [e]⟩
theorem bI_t : bI true = nI 1 := rfl
theorem bI_f : bI false = nI 0 := rfl
theorem bI_0 (b : Bool) : (bI b = nI 0) ↔ b = false := by cases b <;> decide
theorem bI_1 (b : Bool) : (bI b = nI 1) ↔ b = true := by cases b <;> decide
theorem bI_01 (b : Bool) : (bI b = nI 0 ∨ bI b = nI 1) ↔ True := by cases b <;> decide
theorem b_or (b : Bool) : (b = false ∨ b = true) ↔ True := by cases b <;> decide
theorem bI_eq (b c : Bool) : (bI b = bI c) ↔ b = c := by cases b <;> cases c <;> decide
/-- the mask of the numbers below n that f takes -/
def ms : Nat → (Nat → Bool) → Nat
  | 0, _ => 0
  | n + 1, f => if f n then ms n f ||| 2 ^ n else ms n f
theorem ms_bit (f : Nat → Bool) (i : Nat) : ∀ n, (ms n f).testBit i = (decide (i < n) && f i)
  | 0 => by simp [ms]
  | n + 1 => by
    unfold ms
    have ih := ms_bit f i n
    by_cases hin : i = n
    · subst hin
      cases hf : f i <;> simp [ih]
    · have h : decide (i < n + 1) = decide (i < n) := decide_eq_decide.mpr (by omega)
      rw [h]
      split
      · rw [Nat.testBit_or, ih, Nat.testBit_two_pow_of_ne (Ne.symm hin), Bool.or_false]
      · exact ih
theorem ms_lt (f : Nat → Bool) (n : Nat) : ms n f < 2 ^ n := by
  apply Nat.lt_pow_two_of_testBit
  intro i hi
  rw [ms_bit, decide_eq_false (by omega), Bool.false_and]
theorem ms_lt' (f : Nat → Bool) {n k : Nat} (h : n ≤ k) : ms n f < 2 ^ k := Nat.lt_of_lt_of_le (ms_lt f n) (Nat.pow_le_pow_right (by decide) h)
theorem ms_ext {n : Nat} {f g : Nat → Bool} (h : ∀ i, i < n → f i = g i) : ms n f = ms n g := by
  apply Nat.eq_of_testBit_eq
  intro i
  rw [ms_bit, ms_bit]
  by_cases hi : i < n
  · rw [h i hi]
  · rw [decide_eq_false hi, Bool.false_and, Bool.false_and]
theorem ms_eq {n a : Nat} (ha : a < 2 ^ n) {f : Nat → Bool} (h : ∀ i, i < n → a.testBit i = f i) : a = ms n f := by
  apply Nat.eq_of_testBit_eq
  intro i
  rw [ms_bit]
  by_cases hi : i < n
  · rw [h i hi, decide_eq_true hi, Bool.true_and]
  · rw [decide_eq_false hi, Bool.false_and, Nat.testBit_lt_two_pow (Nat.lt_of_lt_of_le ha (Nat.pow_le_pow_right (by decide) (by omega)))]
theorem ms_s (n : Nat) (f : Nat → Bool) : ms (n + 1) f = if f n then ms n f ||| 2 ^ n else ms n f := rfl
/-- loops: F at a counter, with an accumulator -/
def itn {α : Type} (f : Nat → α → α) : Nat → α → α
  | 0, a => a
  | n + 1, a => f n (itn f n a)
theorem lp_n {α β : Type} (F : Nat → α → β) (f : Nat → α → α) (n : Nat) (h : ∀ k a, k < n → F k a = F (k + 1) (f k a)) (a : α) : F 0 a = F n (itn f n a) := by
  have key : ∀ k, k ≤ n → F 0 a = F k (itn f k a) := by
    intro k
    induction k with
    | zero => intro _; rfl
    | succ k ih => intro hk; rw [ih (by omega), h k _ (by omega)]; rfl
  exact key n (Nat.le_refl n)
/-- loops with a kept word -/
theorem lp_i {α β : Type} (F : Nat → α → β) (P : Nat → α → Prop) (n : Nat) (h : ∀ k a, k < n → P k a → ∃ a', F k a = F (k + 1) a' ∧ P (k + 1) a') (a : α) (h0 : P 0 a) : ∃ a', F 0 a = F n a' ∧ P n a' := by
  have key : ∀ k, k ≤ n → ∃ a', F 0 a = F k a' ∧ P k a' := by
    intro k
    induction k with
    | zero => intro _; exact ⟨a, rfl, h0⟩
    | succ k ih =>
      intro hk
      obtain ⟨a', e, hp⟩ := ih (by omega)
      obtain ⟨a2, e2, hp2⟩ := h k a' (by omega) hp
      exact ⟨a2, e.trans e2, hp2⟩
  exact key n (Nat.le_refl n)
/-- loops that stop at the first k that c takes -/
theorem lp_f {β : Type} (F : Nat → β) (c : Nat → Bool) (R : Nat → β) (n : Nat) (h : ∀ k, k < n → F k = if c k = true then R k else F (k + 1)) : F 0 = match (List.range n).find? c with
    | some k => R k
    | none => F n := by
  have key : ∀ m k, k + m = n → F k = match ((List.range' k m).find? c) with
      | some k => R k
      | none => F n := by
    intro m
    induction m with
    | zero => intro k hk; simp only [List.range'_zero, List.find?_nil]; rw [← hk]; rfl
    | succ m ih =>
      intro k hk
      rw [h k (by omega), List.range'_succ, List.find?_cons]
      cases hc : c k with
      | true => simp
      | false => simp only [Bool.false_eq_true, if_false]; exact ih (k + 1) (by omega)
  rw [key n 0 (by omega), List.range_eq_range']
theorem up_eq (O : Mem_) (c n p j : Nat) (v : Int32) : up O c n p j v c n p j = v := by simp [up]
theorem up_row {O : Mem_} {c n p j : Nat} {v : Int32} {c' n' : Nat} (h : c' ≠ c ∨ n' ≠ n) : up O c n p j v c' n' = O c' n' := by
  funext p' j'
  unfold up
  rw [if_neg]
  rintro ⟨h1, h2, -⟩
  rcases h with h | h
  · exact h h1
  · exact h h2
theorem up_self (O : Mem_) (c n p j : Nat) (v : Int32) (p' j' : Nat) : up O c n p j v c n p' j' = if p' = p ∧ j' = j then v else O c n p' j' := by
  unfold up
  by_cases h : p' = p ∧ j' = j
  · rw [if_pos ⟨rfl, rfl, h⟩, if_pos h]
  · rw [if_neg (fun q => h q.2.2), if_neg h]
theorem up_ne {O : Mem_} {c n p j : Nat} {v : Int32} {p' j' : Nat} (h : ¬ (p' = p ∧ j' = j)) : up O c n p j v c n p' j' = O c n p' j' := by rw [up_self, if_neg h]
theorem up_same {O : Mem_} {c n p j : Nat} {v : Int32} (h : O c n p j = v) : up O c n p j v = O := by
  funext c' n' p' j'
  unfold up
  split
  · rename_i q
    obtain ⟨rfl, rfl, rfl, rfl⟩ := q
    exact h.symm
  · rfl
theorem up_up (O : Mem_) (c n p j : Nat) (v w : Int32) : up (up O c n p j v) c n p j w = up O c n p j w := by
  funext c' n' p' j'
  simp only [up]
  split <;> rfl
theorem up_comm (O : Mem_) {c n p j c2 n2 p2 j2 : Nat} (v w : Int32) (h : ¬ (c = c2 ∧ n = n2 ∧ p = p2 ∧ j = j2)) : up (up O c n p j v) c2 n2 p2 j2 w = up (up O c2 n2 p2 j2 w) c n p j v := by
  funext c' n' p' j'
  simp only [up]
  by_cases h1 : c' = c ∧ n' = n ∧ p' = p ∧ j' = j
  · obtain ⟨rfl, rfl, rfl, rfl⟩ := h1
    rw [if_neg h, if_pos ⟨rfl, rfl, rfl, rfl⟩, if_pos ⟨rfl, rfl, rfl, rfl⟩]
  · rw [if_neg h1, if_neg h1]
theorem cpy_row {O : Mem_} {c0 n0 p0 c n p sp dp len : Nat} {c' n' : Nat} (h : c' ≠ c ∨ n' ≠ n) : cpy O c0 n0 p0 c n p sp dp len c' n' = O c' n' := by
  funext p' j'
  unfold cpy
  rw [if_neg]
  rintro ⟨h1, h2, -⟩
  rcases h with h | h
  · exact h h1
  · exact h h2
end
