/-! THE TAPE: feed, end. -/
section
theorem CI.tape {O O' : Mem_} {A : A_} (tp : Nat × (Nat → Nat)) (h : CI O A) (e : ∀ c, c ≠ 3 → O' c = O c) (e2 : O' 3 0 0 2 = O 3 0 0 2) (hP : CTp (O' 3 0) tp) : CI O' (A.1, A.2.1, A.2.2.1, tp, A.2.2.2.2) := by
  obtain ⟨w, cw, c9, hT, hS, hI, hB, hM, -, hF, hSh⟩ := h
  exact ⟨w, by rw [e 6 (by decide)]; exact cw, by rw [e 6 (by decide)]; exact c9, by rw [e 4 (by decide)]; exact hT, by rw [e 1 (by decide)]; exact hS, by rw [e 1 (by decide)]; exact hI, by rw [e 1 (by decide)]; exact hB, by rw [e 0 (by decide)]; exact hM, hP, e2.trans hF, by rw [e 2 (by decide)]; exact hSh⟩
/-- the byte i of v, the least first -/
def byt (v : Int64) (i : Nat) : Nat := v.toBitVec.toNat / 2 ^ (8 * i) % 256
theorem c_u : ∀ k, k < 64 → ((nI k).toInt64.toUInt64 &&& Int64.toUInt64 63) = UInt64.ofNat k := by decide +kernel
theorem c_s : ∀ k, k < 64 → ((nI k).toInt64 &&& 63) = Int64.ofNat k := by decide +kernel
theorem c_sm : ∀ k, k < 64 → ((Int64.ofNat k).toBitVec.smod 64).toNat = k := by decide +kernel
theorem byt_c (v : Int64) {i : Nat} (hi : i < 8) : Int64.toInt32 ((v.toUInt64 >>> ((nI (8 * i)).toInt64.toUInt64 &&& Int64.toUInt64 63)).toInt64) &&& nI 255 = nI (byt v i) := by
  rw [c_u _ (by omega), pk_and _ 8 (by decide)]
  congr 1
  have e1 : ∀ y : Int64, (Int64.toInt32 y).toBitVec.toNat = y.toBitVec.toNat % 2 ^ 32 := fun y => by
    rw [Int64.toBitVec_toInt32, BitVec.signExtend_eq_setWidth_of_le _ (by decide), BitVec.toNat_setWidth]
  rw [e1]
  have e2 : ((v.toUInt64 >>> UInt64.ofNat (8 * i)).toInt64).toBitVec.toNat = v.toBitVec.toNat / 2 ^ (8 * i) := by
    show (v.toUInt64 >>> UInt64.ofNat (8 * i)).toNat = _
    rw [UInt64.toNat_shiftRight, Nat.shiftRight_eq_div_pow, UInt64.toNat_ofNat', Nat.mod_eq_of_lt (a := 8 * i) (by omega), Nat.mod_eq_of_lt (a := 8 * i) (by omega)]
    rfl
  rw [e2, byt, Nat.mod_mod_of_dvd _ (by decide)]
theorem byt_m (v : Int64) {i : Nat} (hi : i < 8) : Int64.toInt32 ((v >>> ((nI (8 * i)).toInt64 &&& 63)) &&& 255) = nI (byt v i) := by
  rw [c_s _ (by omega)]
  apply Int32.toBitVec_inj.mp
  apply BitVec.eq_of_toNat_eq
  rw [Int64.toBitVec_toInt32, BitVec.signExtend_eq_setWidth_of_le _ (by decide), BitVec.toNat_setWidth, pk_tn (Nat.lt_trans (Nat.mod_lt _ (by decide)) (by decide) : byt v i < 2 ^ 32)]
  have e : ((v >>> Int64.ofNat (8 * i)) &&& 255).toBitVec.toNat = byt v i := by
    rw [Int64.toBitVec_and, BitVec.toNat_and]
    have : (255 : Int64).toBitVec.toNat = 2 ^ 8 - 1 := by decide
    rw [this, Nat.and_two_pow_sub_one_eq_mod]
    have e3 : (v >>> Int64.ofNat (8 * i)).toBitVec = v.toBitVec.sshiftRight (8 * i) := by
      show v.toBitVec.sshiftRight' _ = _
      rw [BitVec.sshiftRight', c_sm _ (by omega)]
    rw [e3, byt]
    apply Nat.eq_of_testBit_eq
    intro j
    rw [show (256 : Nat) = 2 ^ 8 by decide, Nat.testBit_mod_two_pow, Nat.testBit_mod_two_pow, Nat.testBit_div_two_pow]
    by_cases hj : j < 8
    · rw [decide_eq_true hj, Bool.true_and, Bool.true_and]
      show (v.toBitVec.sshiftRight (8 * i)).getLsbD j = v.toBitVec.getLsbD (j + 8 * i)
      rw [BitVec.getLsbD_sshiftRight, if_pos (by omega), decide_eq_false (by omega)]
      simp [Nat.add_comm]
    · rw [decide_eq_false hj, Bool.false_and, Bool.false_and]
  rw [e]
  exact Nat.mod_eq_of_lt (Nat.lt_of_lt_of_le (Nat.mod_lt _ (by decide)) (by decide))
theorem nI_m8 (n : Nat) : nI (n + 8) + (-8) = nI n := by
  rw [← nI_add, show (-8 : Int32) = - nI 8 by decide, Int32.add_neg_eq_sub, Int32.add_sub_cancel]
/-- the tape with some of eight bytes more -/
def tpf (tp : Nat × (Nat → Nat)) (v : Int64) (k : Nat) : Nat × (Nat → Nat) := (tp.1 + k, fun j => if tp.1 ≤ j then byt v (7 - (j - tp.1)) else tp.2 j)
theorem byt_lt (v : Int64) (i : Nat) : byt v i < 256 := Nat.mod_lt _ (by decide)
theorem m_put (d : Nat) {O : Mem_} {l : Nat} {x : Int32} (h : O 3 0 0 1 = nI l) (hl : l < 400) : ex (d + 1) 20 0 [some (vr 3 0 0), some (vi x)] [] O = some (nI 0, up (up O 3 0 1 l x) 3 0 0 1 (nI (l + 1))) := by
  rw [sX3_put_0]
  simp (disch := omega) only [nI_ltI, nI_eq, nI_add, nI_clamp, ib_n, pk_mul, q_and, q_or, q_dn, q_shl, q_shlm, q_p1, if_true, if_false, ↓reduceIte, Option.bind_some, bI_0, bI_1, bI_01, b_or, Nat.not_lt_zero, Nat.zero_add, Bool.false_eq_true, Bool.true_eq_false, or_false, or_true, true_or, false_or, h]
  simp (disch := omega) only [up_ne]
  simp (disch := omega) only [nI_ltI, nI_eq, nI_add, nI_clamp, ib_n, pk_mul, q_and, q_or, q_dn, q_shl, q_shlm, q_p1, if_true, if_false, ↓reduceIte, Option.bind_some, bI_0, bI_1, bI_01, b_or, Nat.not_lt_zero, Nat.zero_add, Bool.false_eq_true, Bool.true_eq_false, or_false, or_true, true_or, false_or, h]
  rw [if_pos hl]
end
