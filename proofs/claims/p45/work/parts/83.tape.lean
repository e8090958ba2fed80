/-! THE LAW TELLS ITS TEXT: put. -/
section
/-- a row of longs -/
theorem lgc_v (v : Int64) : lgc (lgl v) (lgh v) = v := by
  apply Int64.toBitVec_inj.mp
  have a1 : (lgh v).toInt64.toBitVec = ((v.toBitVec.sshiftRight 32).signExtend 32).signExtend 64 := by
    unfold lgh
    rw [Int32.toBitVec_toInt64, Int64.toBitVec_toInt32]
    rfl
  have a2 : (lgl v).toInt64.toBitVec = (v.toBitVec.signExtend 32).signExtend 64 := by
    unfold lgl
    rw [Int32.toBitVec_toInt64, Int64.toBitVec_toInt32]
  have a3 : (lgc (lgl v) (lgh v)).toBitVec = ((lgh v).toInt64.toBitVec <<< 32) ||| ((lgl v).toInt64.toBitVec &&& 4294967295#64) := by
    unfold lgc
    rw [Int64.toBitVec_or, Int64.toBitVec_and]
    rfl
  rw [a3, a1, a2]
  apply BitVec.eq_of_getLsbD_eq
  intro i hi
  rw [BitVec.getLsbD_or, BitVec.getLsbD_and, BitVec.getLsbD_shiftLeft]
  have c : (4294967295#64).getLsbD i = decide (i < 32) := by
    show Nat.testBit 4294967295 i = _
    rw [show (4294967295 : Nat) = 2 ^ 32 - 1 by decide, Nat.testBit_two_pow_sub_one]
  rw [c, BitVec.getLsbD_signExtend, BitVec.getLsbD_signExtend, BitVec.getLsbD_signExtend, BitVec.getLsbD_signExtend, BitVec.getLsbD_sshiftRight]
  by_cases h : i < 32
  · simp [h, hi]
  · have h2 : 32 + (i - 32) = i := by omega
    have h3 : i - 32 < 32 := by omega
    have h4 : i - 32 < 64 := by omega
    have h5 : ¬ 64 ≤ i - 32 := by omega
    simp [h, hi, h2, h3, h4, h5]
theorem rL_eq (O : Mem_) (c n p j : Nat) (v : Int64) : rdL (upL O c n p j v) c n p j = v := by
  unfold rdL upL
  rw [up_ne (by omega), up_eq, up_eq]
  exact lgc_v v
theorem rL_ne (O : Mem_) (c n p j : Nat) (v : Int64) {k : Nat} (h : k ≠ j) : rdL (upL O c n p j v) c n p k = rdL O c n p k := by
  unfold rdL upL
  rw [up_ne (by omega), up_ne (by omega), up_ne (by omega), up_ne (by omega)]
theorem uL_row {O : Mem_} {c n p j : Nat} {v : Int64} {c' n' : Nat} (h : c' ≠ c ∨ n' ≠ n) : upL O c n p j v c' n' = O c' n' := by
  unfold upL
  rw [up_row h, up_row h]
theorem uL_p {O : Mem_} {c n p j : Nat} {v : Int64} {p' : Nat} (h : p' ≠ p) : upL O c n p j v c n p' = O c n p' := by
  funext q
  unfold upL
  rw [up_ne (fun z => h z.1), up_ne (fun z => h z.1)]
theorem rL_of {O O' : Mem_} {c n p : Nat} (h : O' c n p = O c n p) (j : Nat) : rdL O' c n p j = rdL O c n p j := by
  unfold rdL
  rw [h]
/-- bytes in one number, the first the highest -/
def pv (l : List Nat) : Nat := l.foldl (fun a c => 256 * a + c) 0
theorem pv_snoc (l : List Nat) (c : Nat) : pv (l ++ [c]) = 256 * pv l + c := by
  unfold pv
  rw [List.foldl_append]
  rfl
theorem l_snoc {α : Type} {l : List α} {n : Nat} (h : l.length = n + 1) : ∃ t c, l = t ++ [c] ∧ t.length = n := by
  have hne : l ≠ [] := fun e => by rw [e] at h; cases h
  refine ⟨l.dropLast, l.getLast hne, (List.dropLast_concat_getLast hne).symm, ?_⟩
  rw [List.length_dropLast, h]
  rfl
theorem pv_lt : ∀ (n : Nat) (l : List Nat), l.length = n → (∀ c ∈ l, c < 256) → pv l < 256 ^ n
  | 0, l, h, _ => by
    rw [List.eq_nil_of_length_eq_zero h]
    decide
  | n + 1, l, h, hl => by
    obtain ⟨t, c, rfl, ht⟩ := l_snoc h
    have h1 := pv_lt n t ht (fun x hx => hl x (List.mem_append_left _ hx))
    have h2 := hl c (List.mem_append_right _ List.mem_cons_self)
    rw [pv_snoc, Nat.pow_succ]
    omega
theorem pv_byt : ∀ (n : Nat) (l : List Nat), l.length = n → (∀ c ∈ l, c < 256) → ∀ j, j < n → pv l / 256 ^ (n - 1 - j) % 256 = l.getD j 0
  | 0, l, _, _, j, hj => absurd hj (Nat.not_lt_zero j)
  | n + 1, l, h, hl, j, hj => by
    obtain ⟨t, c, rfl, ht⟩ := l_snoc h
    have h2 := hl c (List.mem_append_right _ List.mem_cons_self)
    rw [pv_snoc]
    by_cases e : j = n
    · subst e
      rw [show j + 1 - 1 - j = 0 by omega, Nat.pow_zero, Nat.div_one]
      rw [List.getD_eq_getElem?_getD, List.getElem?_append_right (by omega), ht, Nat.sub_self]
      show _ = c
      omega
    · have h1 := pv_byt n t ht (fun x hx => hl x (List.mem_append_left _ hx)) j (by omega)
      rw [show n + 1 - 1 - j = (n - 1 - j) + 1 by omega, Nat.pow_succ, Nat.mul_comm (256 ^ _) 256, ← Nat.div_div_eq_div_mul, show (256 * pv t + c) / 256 = pv t by omega, h1]
      rw [List.getD_eq_getElem?_getD, List.getD_eq_getElem?_getD, List.getElem?_append_left (by omega)]
/-- the state but for the tape -/
def A0_ : A_ := (td0, sc0 td0, fun _ => none, (0, fun _ => 0), 0, fun _ => none, 0)
theorem WA_0 : WA A0_ := ⟨WT_td0, sc0_ok, (fun i c h => by cases h), ⟨Nat.zero_le _, fun j => (by decide : 0 < 256)⟩, (by decide : 0 < 10), (fun k x h => by cases h), (by decide : 0 < 10)⟩
def tpA (tp : Nat × (Nat → Nat)) : A_ := (A0_.1, A0_.2.1, A0_.2.2.1, tp, A0_.2.2.2.2)
/-- bs was told so far -/
def TP (O : Mem_) (bs : List Nat) : Prop := ∃ tp : Nat × (Nat → Nat), WA (tpA tp) ∧ CI O (tpA tp) ∧ tp.1 = 8 * (bs.length / 8) ∧ (∀ j, j < 8 * (bs.length / 8) → tp.2 j = bs.getD j 0) ∧ (rdL O 7 0 6 0).toBitVec.toNat = pv (bs.drop (8 * (bs.length / 8))) ∧ rdL O 7 0 6 1 = Int64.ofNat bs.length ∧ rdL O 7 0 6 2 = 0
/-- but for the tape and the row of longs nothing is changed -/
def FrW (O O' : Mem_) : Prop := (∀ c, c ≠ 3 → c ≠ 7 → O' c = O c) ∧ ∀ p, p ≠ 6 → O' 7 0 p = O 7 0 p
theorem FrW.rf {O : Mem_} : FrW O O := ⟨fun _ _ _ => rfl, fun _ _ => rfl⟩
theorem FrW.trans {O O' O2 : Mem_} (h : FrW O O') (g : FrW O' O2) : FrW O O2 := ⟨fun c a b => (g.1 c a b).trans (h.1 c a b), fun p a => (g.2 p a).trans (h.2 p a)⟩
theorem CI.of7 {O O' : Mem_} {A : A_} (h : CI O A) (e : ∀ c, c ≠ 7 → O' c = O c) : CI O' A := h.of (by rw [e 0 (by decide)]) (e 1 (by decide)) (e 2 (by decide)) (e 3 (by decide)) (e 4 (by decide)) (e 6 (by decide))
theorem k64 : ∀ k, k < 512 → Int64.ofNat k + 1 = Int64.ofNat (k + 1) ∧ (lg_cmp (Int64.ofNat k - Int64.ofNat k / 8 * 8) 0 = nI 0 ↔ k % 8 = 0) ∧ (Int64.ofNat k).toInt32 = nI k := by decide +kernel
theorem c64 : ∀ c, c < 256 → (nI c).toInt64 = Int64.ofNat c ∧ (Int64.ofNat c).toBitVec.toNat = c := by decide +kernel
theorem shl8 (v : Int64) (c : Nat) (hc : c < 256) (hv : v.toBitVec.toNat < 256 ^ 7) : ((v <<< ((nI 8).toInt64 &&& 63)) ||| (nI c).toInt64).toBitVec.toNat = 256 * v.toBitVec.toNat + c := by
  rw [c_s 8 (by decide), (c64 c hc).1, Int64.toBitVec_or, BitVec.toNat_or, (c64 c hc).2]
  have e : (v <<< Int64.ofNat 8).toBitVec = v.toBitVec <<< 8 := by
    show v.toBitVec <<< ((Int64.ofNat 8).toBitVec.smod 64) = _
    show v.toBitVec <<< ((Int64.ofNat 8).toBitVec.smod 64).toNat = _
    rw [c_sm 8 (by decide)]
  have h256 : (256 : Nat) ^ 7 * 256 = 2 ^ 64 := by decide
  rw [e, BitVec.toNat_shiftLeft, Nat.shiftLeft_eq, Nat.mod_eq_of_lt (by rw [show (2 : Nat) ^ 8 = 256 by decide]; omega), Nat.mul_comm, ← Nat.two_pow_add_eq_or_of_lt (i := 8) (by rw [show (2 : Nat) ^ 8 = 256 by decide]; exact hc)]
end
