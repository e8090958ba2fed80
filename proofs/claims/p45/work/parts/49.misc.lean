/-! likely, draw. -/
section
theorem sm_ext {n : Nat} {f g : Nat → Nat} (h : ∀ i, i < n → f i = g i) : sm n f = sm n g := by
  induction n with
  | zero => rfl
  | succ n ih =>
    show sm n f + f n = sm n g + g n
    rw [ih (fun i hi => h i (by omega)), h n (by omega)]
theorem sm_le {n b : Nat} {f : Nat → Nat} (h : ∀ i, i < n → f i ≤ b) : sm n f ≤ n * b := by
  induction n with
  | zero => exact Nat.zero_le _
  | succ n ih =>
    show sm n f + f n ≤ _
    have h1 := ih (fun i hi => h i (by omega))
    have h2 := h n (by omega)
    rw [Nat.add_mul, Nat.one_mul]
    omega
theorem sm_mono {n : Nat} {f g : Nat → Nat} (h : ∀ i, i < n → f i ≤ g i) : sm n f ≤ sm n g := by
  induction n with
  | zero => exact Nat.le_refl _
  | succ n ih =>
    show sm n f + f n ≤ sm n g + g n
    have h1 := ih (fun i hi => h i (by omega))
    have h2 := h n (by omega)
    omega
theorem m_lowest (d : Nat) (O : Mem_) {a b : Nat} {lo : Bool} (ha : a ≤ 54) (hb0 : 0 < b) (hb : b ≤ 54) : ex (d + 1) 110 0 [some (vi (nI a)), some (vi (nI b)), some (vi (bI lo))] [] O = some (nI (if lo then b / b.gcd a else a / b.gcd a), O) := by
  have key : ∀ y x i, y + i < 64 → x < 2 ^ 31 → ex (d + 1) 110 8 [some (vi (nI a)), some (vi (nI b)), some (vi (bI lo)), some (vi (nI x)), some (vi (nI y)), some (vi (nI i))] [] O = ex (d + 1) 110 39 [some (vi (nI a)), some (vi (nI b)), some (vi (bI lo)), some (vi (nI (x.gcd y)))] [] O := by
    intro y
    induction y using Nat.strongRecOn with
    | ind y ih =>
      intro x i hi hx
      refine (sX6_ofLowestTerms_8 ..).trans ?_
      simp (disch := omega) only [nI_ltI, nI_eq, nI_add, nI_clamp, ib_n, pk_mul, q_and, q_or, q_dn, q_shl, q_shlm, q_p1, if_true, if_false, ↓reduceIte, Option.bind_some, bI_0, bI_1, bI_01, b_or, Nat.not_lt_zero, Nat.zero_add, Bool.false_eq_true, Bool.true_eq_false, or_false, or_true, true_or, false_or]
      rw [if_pos (by omega)]
      by_cases hy : y = 0
      · subst hy; rw [if_pos rfl, Nat.gcd_zero_right]
      · rw [if_neg hy, if_neg hy, pk_rem hx (by omega) (by omega)]
        have hlt := Nat.mod_lt x (y := y) (by omega)
        rw [ih (x % y) hlt y (i + 1) (by omega) (by omega), Nat.gcd_comm y, ← Nat.gcd_rec, Nat.gcd_comm]
  rw [sX6_ofLowestTerms_0, key a b 0 (by omega) (by omega), sX6_ofLowestTerms_39]
  have hg : 0 < b.gcd a := Nat.gcd_pos_of_pos_left _ hb0
  have hg2 : b.gcd a ≤ b := Nat.gcd_le_left _ hb0
  rw [if_neg (by rw [nI_eq (by omega) (by decide)]; omega)]
  have hne : ¬ nI (b.gcd a) = nI 0 := by rw [nI_eq (by omega) (by decide)]; omega
  rw [if_neg hne]
  have hne2 : ¬ b.gcd a = 0 := by omega
  cases lo with
  | false => simp (disch := omega) only [nI_ltI, nI_eq, nI_add, nI_clamp, ib_n, pk_mul, q_and, q_or, q_dn, q_shl, q_shlm, q_p1, if_true, if_false, ↓reduceIte, Option.bind_some, bI_0, bI_1, bI_01, b_or, Nat.not_lt_zero, Nat.zero_add, Bool.false_eq_true, Bool.true_eq_false, or_false, or_true, true_or, false_or, hne2]; rw [pk_div (by omega) hg (by omega)]
  | true => simp (disch := omega) only [nI_ltI, nI_eq, nI_add, nI_clamp, ib_n, pk_mul, q_and, q_or, q_dn, q_shl, q_shlm, q_p1, if_true, if_false, ↓reduceIte, Option.bind_some, bI_0, bI_1, bI_01, b_or, Nat.not_lt_zero, Nat.zero_add, Bool.false_eq_true, Bool.true_eq_false, or_false, or_true, true_or, false_or, hne2]; rw [pk_div (by omega) hg (by omega)]
theorem all_sm {T : Td_} : chc T (2 ^ nK T - 1) = sm (nK T) fun k => ch_ T k := sm_ext fun k hk => by rw [Nat.testBit_two_pow_sub_one, decide_eq_true hk, if_pos rfl]
theorem chc_le {T : Td_} (hT : WT T) (K : Nat) : chc T K ≤ 54 := by
  have h6 := hT.2.2.2.1
  have : chc T K ≤ nK T * 9 := sm_le fun k _ => by
    have := (hT.2.2.2.2.2.2.2.1 k).2.2
    split
    · exact this
    · exact Nat.zero_le _
  omega
def csm (T : Td_) (M : Md_) (s : Nat) : Nat := sm (nK T) fun k => if sam T M k s then ch_ T k else 0
theorem csm_le {T : Td_} (hT : WT T) (M : Md_) (s : Nat) : csm T M s ≤ 54 := by
  have h6 := hT.2.2.2.1
  have : csm T M s ≤ nK T * 9 := sm_le fun k _ => by
    have := (hT.2.2.2.2.2.2.2.1 k).2.2
    split
    · exact this
    · exact Nat.zero_le _
  omega
end
