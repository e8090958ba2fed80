/-! meant, build; how many bits. -/
section
def bcx (x0 : Int32) : Int32 := ((((((((x0 - (((Int32.toUInt32 x0 >>> (Int32.toUInt32 (nI 1) &&& Int32.toUInt32 31)).toInt32) &&& (nI 1431655765))) &&& (nI 858993459)) + (((Int32.toUInt32 (x0 - (((Int32.toUInt32 x0 >>> (Int32.toUInt32 (nI 1) &&& Int32.toUInt32 31)).toInt32) &&& (nI 1431655765))) >>> (Int32.toUInt32 (nI 2) &&& Int32.toUInt32 31)).toInt32) &&& (nI 858993459))) + ((Int32.toUInt32 (((x0 - (((Int32.toUInt32 x0 >>> (Int32.toUInt32 (nI 1) &&& Int32.toUInt32 31)).toInt32) &&& (nI 1431655765))) &&& (nI 858993459)) + (((Int32.toUInt32 (x0 - (((Int32.toUInt32 x0 >>> (Int32.toUInt32 (nI 1) &&& Int32.toUInt32 31)).toInt32) &&& (nI 1431655765))) >>> (Int32.toUInt32 (nI 2) &&& Int32.toUInt32 31)).toInt32) &&& (nI 858993459))) >>> (Int32.toUInt32 (nI 4) &&& Int32.toUInt32 31)).toInt32)) &&& (nI 252645135)) + ((Int32.toUInt32 (((((x0 - (((Int32.toUInt32 x0 >>> (Int32.toUInt32 (nI 1) &&& Int32.toUInt32 31)).toInt32) &&& (nI 1431655765))) &&& (nI 858993459)) + (((Int32.toUInt32 (x0 - (((Int32.toUInt32 x0 >>> (Int32.toUInt32 (nI 1) &&& Int32.toUInt32 31)).toInt32) &&& (nI 1431655765))) >>> (Int32.toUInt32 (nI 2) &&& Int32.toUInt32 31)).toInt32) &&& (nI 858993459))) + ((Int32.toUInt32 (((x0 - (((Int32.toUInt32 x0 >>> (Int32.toUInt32 (nI 1) &&& Int32.toUInt32 31)).toInt32) &&& (nI 1431655765))) &&& (nI 858993459)) + (((Int32.toUInt32 (x0 - (((Int32.toUInt32 x0 >>> (Int32.toUInt32 (nI 1) &&& Int32.toUInt32 31)).toInt32) &&& (nI 1431655765))) >>> (Int32.toUInt32 (nI 2) &&& Int32.toUInt32 31)).toInt32) &&& (nI 858993459))) >>> (Int32.toUInt32 (nI 4) &&& Int32.toUInt32 31)).toInt32)) &&& (nI 252645135)) >>> (Int32.toUInt32 (nI 8) &&& Int32.toUInt32 31)).toInt32)) + ((Int32.toUInt32 ((((((x0 - (((Int32.toUInt32 x0 >>> (Int32.toUInt32 (nI 1) &&& Int32.toUInt32 31)).toInt32) &&& (nI 1431655765))) &&& (nI 858993459)) + (((Int32.toUInt32 (x0 - (((Int32.toUInt32 x0 >>> (Int32.toUInt32 (nI 1) &&& Int32.toUInt32 31)).toInt32) &&& (nI 1431655765))) >>> (Int32.toUInt32 (nI 2) &&& Int32.toUInt32 31)).toInt32) &&& (nI 858993459))) + ((Int32.toUInt32 (((x0 - (((Int32.toUInt32 x0 >>> (Int32.toUInt32 (nI 1) &&& Int32.toUInt32 31)).toInt32) &&& (nI 1431655765))) &&& (nI 858993459)) + (((Int32.toUInt32 (x0 - (((Int32.toUInt32 x0 >>> (Int32.toUInt32 (nI 1) &&& Int32.toUInt32 31)).toInt32) &&& (nI 1431655765))) >>> (Int32.toUInt32 (nI 2) &&& Int32.toUInt32 31)).toInt32) &&& (nI 858993459))) >>> (Int32.toUInt32 (nI 4) &&& Int32.toUInt32 31)).toInt32)) &&& (nI 252645135)) + ((Int32.toUInt32 (((((x0 - (((Int32.toUInt32 x0 >>> (Int32.toUInt32 (nI 1) &&& Int32.toUInt32 31)).toInt32) &&& (nI 1431655765))) &&& (nI 858993459)) + (((Int32.toUInt32 (x0 - (((Int32.toUInt32 x0 >>> (Int32.toUInt32 (nI 1) &&& Int32.toUInt32 31)).toInt32) &&& (nI 1431655765))) >>> (Int32.toUInt32 (nI 2) &&& Int32.toUInt32 31)).toInt32) &&& (nI 858993459))) + ((Int32.toUInt32 (((x0 - (((Int32.toUInt32 x0 >>> (Int32.toUInt32 (nI 1) &&& Int32.toUInt32 31)).toInt32) &&& (nI 1431655765))) &&& (nI 858993459)) + (((Int32.toUInt32 (x0 - (((Int32.toUInt32 x0 >>> (Int32.toUInt32 (nI 1) &&& Int32.toUInt32 31)).toInt32) &&& (nI 1431655765))) >>> (Int32.toUInt32 (nI 2) &&& Int32.toUInt32 31)).toInt32) &&& (nI 858993459))) >>> (Int32.toUInt32 (nI 4) &&& Int32.toUInt32 31)).toInt32)) &&& (nI 252645135)) >>> (Int32.toUInt32 (nI 8) &&& Int32.toUInt32 31)).toInt32)) >>> (Int32.toUInt32 (nI 16) &&& Int32.toUInt32 31)).toInt32)) &&& (nI 63))
theorem bcx_ok : ∀ q, q < 64 → ∀ r, r < 64 → bcx (nI (64 * q + r)) = nI (cnt (64 * q + r) 12) := by decide +kernel
theorem m_bitCount (d : Nat) (O : Mem_) {b : Nat} (hb : b < 4096) : ex (d + 1) 217 0 [some (vi (nI b))] [] O = some (nI (cnt b 12), O) := by
  have e : b = 64 * (b / 64) + b % 64 := by omega
  have h := bcx_ok (b / 64) (by omega) (b % 64) (by omega)
  rw [← e] at h
  refine (sJ6_bitCount_0f7a4_0 d O (nI b)).trans ?_
  exact congrArg (fun z => some (z, O)) h
theorem cnt_split (a b : Nat) : ∀ n, cnt (dn a b) n + cnt (a &&& b) n = cnt a n
  | 0 => rfl
  | n + 1 => by
    show cnt (dn a b) n + ((dn a b).testBit n).toNat + (cnt (a &&& b) n + ((a &&& b).testBit n).toNat) = cnt a n + (a.testBit n).toNat
    have := cnt_split a b n
    rw [dn_bit, Nat.testBit_and]
    cases a.testBit n <;> cases b.testBit n <;> simp <;> omega
/-- what fits all of theirs -/
def thF (T : Td_) (n : Nat) (g : Nat → Nat × Bool) : Nat := ms (nM T) fun m => (List.range n).all fun i => (are T m).testBit (g i).1 == (g i).2
theorem thF_lt {T : Td_} (hT : WT T) (n : Nat) (g : Nat → Nat × Bool) : thF T n g < 4096 := ms_lt' _ (k := 12) hT.2.1
/-- the best to ask: a thing, how many go for sure -/
def tlS (T : Td_) (F t : Nat) : Nat := min (cnt (dn F (isIt T t)) 12) (cnt (F &&& isIt T t) 12)
def tlG (T : Td_) (F : Nat) : Nat → Option (Nat × Nat)
  | 0 => none
  | t + 1 => match tlG T F t with
    | none => some (t, tlS T F t)
    | some (b, v) => if v < tlS T F t then some (t, tlS T F t) else some (b, v)
/-- minus one, or a number -/
def mI : Option Nat → Int32
  | none => -1
  | some x => nI x
theorem mI_lt (v : Nat) (hv : v < 2 ^ 31) : mI none < nI v := by
  rw [Int32.lt_iff_toInt_lt, nI_toInt hv]
  show (-1 : Int32).toInt < _
  rw [show (-1 : Int32).toInt = -1 by decide]
  omega
theorem tlG_lt {T : Td_} {F : Nat} : ∀ {n : Nat} {b v : Nat}, tlG T F n = some (b, v) → b < n ∧ v ≤ 12
  | 0, _, _, h => by cases h
  | t + 1, b, v, h => by
    have hs : tlS T F t ≤ 12 := Nat.le_trans (Nat.min_le_left _ _) (cnt_le _ 12)
    unfold tlG at h
    cases hq : tlG T F t with
    | none => rw [hq] at h; cases h; exact ⟨Nat.lt_succ_self _, hs⟩
    | some p =>
      rw [hq] at h
      have ih := tlG_lt (b := p.1) (v := p.2) hq
      dsimp only at h
      split at h
      · cases h; exact ⟨Nat.lt_succ_self _, hs⟩
      · cases h; exact ⟨by omega, ih.2⟩
section
variable {T : Td_} {O : Mem_} {w : Nat}
theorem m_fittingTheirs (d : Nat) {c : Sc_} (hsel : sel (O 6 0 0 1) = w) (hT : CT (O 4 w) T) (wT : WT T) (hS : CS (O 1 0) c) (wc : WSc T c) : ex (d + 3) 116 0 [some (vr 6 0 0)] [] O = some (nI (thF T c.2.2.2.1 c.2.2.2.2), O) := by
  have h12 := wT.2.1
  have w4 := wc.2.2.2.1
  rw [sX6_fittingTheirs_0]
  simp (disch := omega) only [nI_ltI, nI_eq, nI_add, nI_clamp, ib_n, pk_mul, q_and, q_or, q_dn, q_shl, q_shlm, q_p1, if_true, if_false, ↓reduceIte, Option.bind_some, bI_0, bI_1, bI_01, b_or, Nat.not_lt_zero, Nat.zero_add, Bool.false_eq_true, Bool.true_eq_false, or_false, or_true, true_or, false_or, hsel, m_allMeanings (h := hT) (hT := wT)]
  refine Exists.elim (lp_i (fun i a => ex (d + 3) 116 10 [some (vr 6 0 0), some (vi (nI a)), some (vi (nI i))] [] O) (fun i a => a < 2 ^ nM T ∧ ∀ m, m < nM T → a.testBit m = (List.range i).all fun i => (are T m).testBit (c.2.2.2.2 i).1 == (c.2.2.2.2 i).2) c.2.2.2.1 ?_ (2 ^ nM T - 1) ⟨Nat.sub_lt (Nat.two_pow_pos _) (by decide), fun m hm => by rw [Nat.testBit_two_pow_sub_one, decide_eq_true hm]; simp⟩) ?_
  · intro i a hi ha
    have wi := wc.2.2.2.2 i hi
    obtain ⟨t1, t2⟩ := hS.2.2.2.2 i hi
    refine ⟨a &&& fitg T (c.2.2.2.2 i).1 (c.2.2.2.2 i).2, ?_, Nat.lt_of_le_of_lt Nat.and_le_left ha.1, fun m hm => ?_⟩
    · refine (sX6_fittingTheirs_10 ..).trans ?_
      simp (disch := omega) only [nI_ltI, nI_eq, nI_add, nI_clamp, ib_n, pk_mul, q_and, q_or, q_dn, q_shl, q_shlm, q_p1, if_true, if_false, ↓reduceIte, Option.bind_some, bI_0, bI_1, bI_01, b_or, Nat.not_lt_zero, Nat.zero_add, Bool.false_eq_true, Bool.true_eq_false, or_false, or_true, true_or, false_or, hS.2.2.2.1, hi, hsel, t1, t2, m_fitting d (n := w) (c.2.2.2.2 i).2 wi hT wT]
      rw [if_pos (by omega)]
    · rw [Nat.testBit_and, ha.2 m hm, fitg_bit hm wi, List.range_succ, List.all_append]
      simp
  · rintro a ⟨e, ha, hb⟩
    refine e.trans ((sX6_fittingTheirs_10 ..).trans ?_)
    simp (disch := omega) only [nI_ltI, nI_eq, nI_add, nI_clamp, ib_n, pk_mul, q_and, q_or, q_dn, q_shl, q_shlm, q_p1, if_true, if_false, ↓reduceIte, Option.bind_some, bI_0, bI_1, bI_01, b_or, Nat.not_lt_zero, Nat.zero_add, Bool.false_eq_true, Bool.true_eq_false, or_false, or_true, true_or, false_or, hS.2.2.2.1, Nat.lt_irrefl]
    rw [ms_eq ha hb]; rfl
theorem n_fitsTheirs (d : Nat) {c : Sc_} (hT : MT (O 7 0) T) (wT : WT T) (hS : MS (O 7 0) c) (wc : WSc T c) : ex (d + 2) 204 0 [some (vr 7 0 0)] [] O = some (nI (thF T c.2.2.2.1 c.2.2.2.2), O) := by
  have h12 := wT.2.1
  have h8 := wT.1
  have w4 := wc.2.2.2.1
  rw [sX7_fitsTheirs_0]
  refine (lp_n (fun m a => ex (d + 2) 204 4 [some (vr 7 0 0), some (vi (nI a)), some (vi (nI m))] [] O) (fun m a => if ((List.range c.2.2.2.1).all fun i => (are T m).testBit (c.2.2.2.2 i).1 == (c.2.2.2.2 i).2) = true then a ||| 2 ^ m else a ||| 0) (nM T) (fun m a hm => ?_) 0).trans ?_
  · have am := are_lt wT m
    refine (sX7_fitsTheirs_4 ..).trans ?_
    simp (disch := omega) only [nI_ltI, nI_eq, nI_add, nI_clamp, ib_n, pk_mul, q_and, q_or, q_dn, q_shl, q_shlm, q_p1, if_true, if_false, ↓reduceIte, Option.bind_some, bI_0, bI_1, bI_01, b_or, Nat.not_lt_zero, Nat.zero_add, Bool.false_eq_true, Bool.true_eq_false, or_false, or_true, true_or, false_or, hT.1.2.1, hm]
    refine Exists.elim (lp_i (fun i (b : Bool) => ex (d + 2) 204 17 [some (vr 7 0 0), some (vi (nI a)), some (vi (nI m)), some (vi (bI b)), some (vi (nI i))] [] O) (fun i b => b = (List.range i).all fun i => (are T m).testBit (c.2.2.2.2 i).1 == (c.2.2.2.2 i).2) c.2.2.2.1 ?_ true (by simp)) ?_
    · intro i b hi hb
      have wi := wc.2.2.2.2 i hi
      obtain ⟨t1, t2⟩ := hS.2.2.2.2 i hi
      refine ⟨b && ((are T m).testBit (c.2.2.2.2 i).1 == (c.2.2.2.2 i).2), ?_, by rw [List.range_succ, List.all_append, ← hb]; simp⟩
      refine (sX7_fitsTheirs_17 ..).trans ?_
      cases b with
      | false => simp (disch := omega) only [nI_ltI, nI_eq, nI_add, nI_clamp, ib_n, pk_mul, q_and, q_or, q_dn, q_shl, q_shlm, q_p1, if_true, if_false, ↓reduceIte, Option.bind_some, bI_0, bI_1, bI_01, b_or, Nat.not_lt_zero, Nat.zero_add, Bool.false_eq_true, Bool.true_eq_false, or_false, or_true, true_or, false_or, hS.2.2.2.1, hi]; rfl
      | true =>
        simp (disch := omega) only [nI_ltI, nI_eq, nI_add, nI_clamp, ib_n, pk_mul, q_and, q_or, q_dn, q_shl, q_shlm, q_p1, if_true, if_false, ↓reduceIte, Option.bind_some, bI_0, bI_1, bI_01, b_or, Nat.not_lt_zero, Nat.zero_add, Bool.false_eq_true, Bool.true_eq_false, or_false, or_true, true_or, false_or, hS.2.2.2.1, hi, t1, t2, m_flag, (hT.2.2.1 m hm).2.2, q_bitv, bI_eq]
        by_cases e : (are T m).testBit (c.2.2.2.2 i).1 = (c.2.2.2.2 i).2
        · simp [e, bI]
        · have e2 : ((are T m).testBit (c.2.2.2.2 i).1 == (c.2.2.2.2 i).2) = false := beq_false_of_ne e
          simp [e, e2, bI]
    · rintro b ⟨e, hb⟩
      refine e.trans ((sX7_fitsTheirs_17 ..).trans ?_)
      simp (disch := omega) only [nI_ltI, nI_eq, nI_add, nI_clamp, ib_n, pk_mul, q_and, q_or, q_dn, q_shl, q_shlm, q_p1, if_true, if_false, ↓reduceIte, Option.bind_some, bI_0, bI_1, bI_01, b_or, Nat.not_lt_zero, Nat.zero_add, Bool.false_eq_true, Bool.true_eq_false, or_false, or_true, true_or, false_or, hS.2.2.2.1, Nat.lt_irrefl]
      rw [← hb]
      cases b <;> simp
  · refine (sX7_fitsTheirs_4 ..).trans ?_
    simp (disch := omega) only [nI_ltI, nI_eq, nI_add, nI_clamp, ib_n, pk_mul, q_and, q_or, q_dn, q_shl, q_shlm, q_p1, if_true, if_false, ↓reduceIte, Option.bind_some, bI_0, bI_1, bI_01, b_or, Nat.not_lt_zero, Nat.zero_add, Bool.false_eq_true, Bool.true_eq_false, or_false, or_true, true_or, false_or, hT.1.2.1, Nat.lt_irrefl, itn_ms0]
    rfl
theorem m_mostTelling (d : Nat) {F : Nat} (hF : F < 4096) (hsel : sel (O 6 0 0 1) = w) (hT : CT (O 4 w) T) (wT : WT T) : ex (d + 2) 117 0 [some (vr 6 0 0), some (vi (nI F))] [] O = some (oI ((tlG T F (nT T)).map Prod.fst), O) := by
  have h8 := wT.1
  rw [sX6_mostTelling_0]
  have lp := lp_i (fun t (o : Option (Nat × Nat)) => ex (d + 2) 117 8 [some (vr 6 0 0), some (vi (nI F)), some (vi (oI (o.map Prod.fst))), some (vi (mI (o.map Prod.snd))), some (vi (nI t))] [] O) (fun t o => o = tlG T F t) (nT T) (fun t o ht ho => by
    have c1 := dn_le F (isIt T t)
    have c2 : F &&& isIt T t ≤ F := Nat.and_le_left
    have c3 := cnt_le (dn F (isIt T t)) 12
    have c4 := cnt_le (F &&& isIt T t) 12
    have emin : (if nI (cnt (F &&& isIt T t) 12) < nI (cnt (dn F (isIt T t)) 12) then nI (cnt (F &&& isIt T t) 12) else nI (cnt (dn F (isIt T t)) 12)) = nI (tlS T F t) := by
      unfold tlS
      by_cases hc : cnt (F &&& isIt T t) 12 < cnt (dn F (isIt T t)) 12
      · rw [if_pos (nI_lt hc (by omega)), Nat.min_eq_right (by omega)]
      · rw [if_neg (nI_nlt (by omega) (by omega)), Nat.min_eq_left (by omega)]
    have hs : tlS T F t ≤ 12 := Nat.le_trans (Nat.min_le_left _ _) (cnt_le _ 12)
    refine ⟨tlG T F (t + 1), ?_, rfl⟩
    refine (sX6_mostTelling_8 ..).trans ?_
    rw [hsel]
    rw [hT.1.1, if_pos (nI_lt ht (by omega)), nI_clamp (by omega), ib_n (by omega) (by decide), (hT.2.1 t ht).2, q_dn, m_bitCount _ _ (by omega)]
    simp only [if_true, Option.bind_some]
    rw [hsel, (hT.2.1 t ht).2, q_and, m_bitCount _ _ (by omega)]
    simp only [Option.bind_some]
    rw [emin, nI_add]
    subst ho
    cases hq : tlG T F t with
    | none =>
      have hlt := mI_lt (tlS T F t) (by omega)
      simp only [Option.map_none]
      rw [if_pos hlt]
      simp only [tlG, hq]
      rfl
    | some p =>
      have hp := tlG_lt (b := p.1) (v := p.2) hq
      simp only [Option.map_some, mI, oI]
      simp (disch := omega) only [nI_ltI]
      by_cases hlt : p.2 < tlS T F t
      · rw [if_pos hlt]; simp only [tlG, hq, if_pos hlt]; rfl
      · rw [if_neg hlt]; simp only [tlG, hq, if_neg hlt]; rfl) none rfl
  obtain ⟨o, e, ho⟩ := lp
  refine e.trans ((sX6_mostTelling_8 ..).trans ?_)
  rw [hsel, hT.1.1, if_neg (nI_nlt (Nat.le_refl _) (by omega)), ho]
theorem n_toAsk (d : Nat) {F : Nat} (hF : F < 2 ^ nM T) (hT : MT (O 7 0) T) (wT : WT T) : ex (d + 2) 205 0 [some (vr 7 0 0), some (vi (nI F))] [] O = some (oI (if F = 0 then none else (tlG T F (nT T)).map Prod.fst), O) := by
  have h8 := wT.1
  have h12 := wT.2.1
  have p12 : 2 ^ nM T ≤ 2 ^ 12 := Nat.pow_le_pow_right (by decide) h12
  rw [sX7_toAsk_0]
  by_cases h0 : F = 0
  · subst h0
    refine (sX7_toAsk_8 ..).trans ?_
    rw [if_pos rfl, if_pos rfl]
    rw [ite_self]
  · rw [if_neg h0]
    have lp := lp_i (fun t (o : Option (Nat × Nat)) => ex (d + 2) 205 8 [some (vr 7 0 0), some (vi (nI F)), some (vi (oI (o.map Prod.fst))), some (vi (mI (o.map Prod.snd))), some (vi (nI t))] [] O) (fun t o => o = tlG T F t) (nT T) (fun t o ht ho => by
      have ec : cnt (F &&& isIt T t) (nM T) = cnt (F &&& isIt T t) 12 := (cnt_hi (Nat.lt_of_le_of_lt Nat.and_le_left hF) 12 h12).symm
      have c4 := cnt_le (F &&& isIt T t) 12
      have sp := cnt_split F (isIt T t) 12
      have e16 : cnt F 16 = cnt F 12 := by rw [cnt_hi hF 16 (by omega), cnt_hi hF 12 h12]
      have cF := cnt_le F 12
      have hs : tlS T F t ≤ 12 := Nat.le_trans (Nat.min_le_left _ _) (cnt_le _ 12)
      refine ⟨tlG T F (t + 1), ?_, rfl⟩
      refine (sX7_toAsk_8 ..).trans ?_
      rw [hT.1.1, if_pos (nI_lt ht (by omega)), if_neg (by rw [nI_eq (by omega) (by decide)]; exact h0)]
      refine (lp_n (fun m a => ex (d + 2) 205 27 [some (vr 7 0 0), some (vi (nI F)), some (vi (oI (o.map Prod.fst))), some (vi (mI (o.map Prod.snd))), some (vi (nI t)), some (vi (nI a)), some (vi (nI m))] [] O) (fun m a => a + ((F &&& isIt T t).testBit m).toNat) (nM T) (fun m a hm => ?_) 0).trans ?_
      · have am := are_lt wT m
        have e1 : (are T m).testBit t = isA T m t := by rw [are, ms_bit, decide_eq_true ht, Bool.true_and]
        have e2 : (isIt T t).testBit m = isA T m t := by rw [isIt, ms_bit, decide_eq_true hm, Bool.true_and]
        refine (sX7_toAsk_27 ..).trans ?_
        simp (disch := omega) only [nI_ltI, nI_eq, nI_add, nI_clamp, ib_n, pk_mul, q_and, q_or, q_dn, q_shl, q_shlm, q_p1, if_true, if_false, ↓reduceIte, Option.bind_some, bI_0, bI_1, bI_01, b_or, Nat.not_lt_zero, Nat.zero_add, Bool.false_eq_true, Bool.true_eq_false, or_false, or_true, true_or, false_or, hT.1.2.1, hm, q_bit, (hT.2.2.1 m hm).2.2, Nat.testBit_and, e2]
        cases F.testBit m with
        | false => simp
        | true =>
          simp only [if_true, Bool.true_and]
          rw [q_bitv _ _ (by omega) (by omega), e1, bI, nI_add]
      · rw [itn_cnt, ec]
        refine (sX7_toAsk_27 ..).trans ?_
        rw [hT.1.2.1, if_neg (nI_nlt (Nat.le_refl _) (by omega)), m_countOf _ _ (by omega)]
        simp only [Option.bind_some]
        rw [m_countOf _ _ (by omega)]
        simp only [Option.bind_some]
        rw [e16, pk_sub (a := cnt F 12) (b := cnt (F &&& isIt T t) 12) (by omega)]
        have fin : ∀ v, v = tlS T F t → (if mI (o.map Prod.snd) < nI v then ex (d + 2) 205 111 [some (vr 7 0 0), some (vi (nI F)), none, some (vi (mI (o.map Prod.snd))), some (vi (nI t)), none, some (vi (nI v))] [vi (nI t)] O else ex (d + 2) 205 111 [some (vr 7 0 0), some (vi (nI F)), none, some (vi (mI (o.map Prod.snd))), some (vi (nI t)), none, some (vi (nI v))] [vi (oI (o.map Prod.fst))] O) = ex (d + 2) 205 8 [some (vr 7 0 0), some (vi (nI F)), some (vi (oI ((tlG T F (t + 1)).map Prod.fst))), some (vi (mI ((tlG T F (t + 1)).map Prod.snd))), some (vi (nI (t + 1)))] [] O := by
          intro v hv
          subst hv
          subst ho
          cases hq : tlG T F t with
          | none =>
            have hlt := mI_lt (tlS T F t) (by omega)
            simp only [Option.map_none]
            rw [if_pos hlt, sX7_toAsk_111, if_pos hlt, nI_add]
            simp only [tlG, hq]
            rfl
          | some p =>
            have hp := tlG_lt (b := p.1) (v := p.2) hq
            simp only [Option.map_some, mI, oI]
            simp (disch := omega) only [nI_ltI]
            by_cases hlt : p.2 < tlS T F t
            · rw [if_pos hlt, sX7_toAsk_111, if_pos (nI_lt hlt (by omega)), nI_add]; simp only [tlG, hq, if_pos hlt]; rfl
            · rw [if_neg hlt, sX7_toAsk_111, if_neg (nI_nlt (by omega) (by omega)), nI_add]; simp only [tlG, hq, if_neg hlt]; rfl
        by_cases hc : cnt (F &&& isIt T t) 12 < cnt F 12 - cnt (F &&& isIt T t) 12
        · rw [if_pos (nI_lt hc (by omega))]
          exact fin _ (by unfold tlS; omega)
        · rw [if_neg (nI_nlt (by omega) (by omega))]
          exact fin _ (by unfold tlS; omega)) none rfl
    obtain ⟨o, e, ho⟩ := lp
    refine e.trans ((sX7_toAsk_8 ..).trans ?_)
    rw [hT.1.1, if_neg (nI_nlt (Nat.le_refl _) (by omega)), ho]
end
theorem q_meant (x : Int32) : Cal 99 206 [some (vi x)] := Cal.q fun O A hw hc hm => by
  obtain ⟨w, cw, c9, hT, hS, hI, hB, hM, hP, hF, hSh⟩ := hc
  have hsel := cw.sel
  obtain ⟨mT, mSc, mIm, mN, mP, mF, mSh, mt⟩ := hm
  have hw' := hw
  obtain ⟨wT, wS, wI, wP, wF, wSh, wt⟩ := hw
  have h8 := wT.1
  have h12 := wT.2.1
  have h4 := wT.2.2.1
  have h6 := wT.2.2.2.1
  have wMd : WMd A.1 (mds A.1 A.2.1.2.1 A.2.1.1) := mds_wf _ (by have := wS.1; omega)
  have kmC : ∀ k, k < nK A.1 → KM (O 0 0) k ((mds A.1 A.2.1.2.1 A.2.1.1).2 k) := fun k hk => hM.2.2 k hk (by rw [Nat.testBit_two_pow_sub_one, decide_eq_true hk])
  have kmN : ∀ k, k < nK A.1 → KN (O 7 0) (10 * k) ((mds A.1 A.2.1.2.1 A.2.1.1).2 k) := fun k hk => by have := mN.1 k hk; rwa [Nat.zero_add] at this
  have hF := thF_lt wT A.2.1.2.2.2.1 A.2.1.2.2.2.2
  have hF2 : thF A.1 A.2.1.2.2.2.1 A.2.1.2.2.2.2 < 2 ^ nM A.1 := ms_lt _ _
  have f1 := m_fittingTheirs 36 hsel hT wT hS wS
  have f2 := n_fitsTheirs 37 mT wT mSc wS
  generalize thF A.1 A.2.1.2.2.2.1 A.2.1.2.2.2.2 = F at hF hF2 f1 f2
  by_cases hx : hsI x 4 = true
  · obtain ⟨c, hcc, rfl⟩ := hsI_of (by decide) hx
    rcases (by omega : c = 0 ∨ c = 1 ∨ c = 2 ∨ c = 3) with rfl | rfl | rfl | rfl
    · refine ⟨nI (cnt F 12), ?_, ?_⟩
      · rw [sX6_meant_0]
        simp (disch := omega) only [nI_ltI, nI_eq, nI_add, nI_clamp, ib_n, pk_mul, q_and, q_or, q_dn, q_shl, q_shlm, q_p1, if_true, if_false, ↓reduceIte, Option.bind_some, bI_0, bI_1, bI_01, b_or, Nat.not_lt_zero, Nat.zero_add, Bool.false_eq_true, Bool.true_eq_false, or_false, or_true, true_or, false_or, f1, m_bitCount]
      · have e16 : cnt F 16 = cnt F 12 := by rw [cnt_hi hF2 16 (by omega), cnt_hi hF2 12 h12]
        rw [sX7_meant_0]
        simp (disch := omega) only [nI_ltI, nI_eq, nI_add, nI_clamp, ib_n, pk_mul, q_and, q_or, q_dn, q_shl, q_shlm, q_p1, if_true, if_false, ↓reduceIte, Option.bind_some, bI_0, bI_1, bI_01, b_or, Nat.not_lt_zero, Nat.zero_add, Bool.false_eq_true, Bool.true_eq_false, or_false, or_true, true_or, false_or, f2, m_countOf, e16]
    · refine ⟨oI (plainest A.1 F), ?_, ?_⟩
      · rw [sX6_meant_0]
        simp (disch := omega) only [nI_ltI, nI_eq, nI_add, nI_clamp, ib_n, pk_mul, q_and, q_or, q_dn, q_shl, q_shlm, q_p1, if_true, if_false, ↓reduceIte, Option.bind_some, bI_0, bI_1, bI_01, b_or, Nat.not_lt_zero, Nat.zero_add, Bool.false_eq_true, Bool.true_eq_false, or_false, or_true, true_or, false_or, f1, hsel]
        rw [m_plainest _ (by omega) hT wT]
        simp
      · rw [sX7_meant_0]
        simp (disch := omega) only [nI_ltI, nI_eq, nI_add, nI_clamp, ib_n, pk_mul, q_and, q_or, q_dn, q_shl, q_shlm, q_p1, if_true, if_false, ↓reduceIte, Option.bind_some, bI_0, bI_1, bI_01, b_or, Nat.not_lt_zero, Nat.zero_add, Bool.false_eq_true, Bool.true_eq_false, or_false, or_true, true_or, false_or, f2]
        rw [n_plainest _ (by omega) mT wT]
        simp
    · refine ⟨nI F, ?_, ?_⟩
      · rw [sX6_meant_0]
        simp (disch := omega) only [nI_ltI, nI_eq, nI_add, nI_clamp, ib_n, pk_mul, q_and, q_or, q_dn, q_shl, q_shlm, q_p1, if_true, if_false, ↓reduceIte, Option.bind_some, bI_0, bI_1, bI_01, b_or, Nat.not_lt_zero, Nat.zero_add, Bool.false_eq_true, Bool.true_eq_false, or_false, or_true, true_or, false_or, f1]
        simp
      · rw [sX7_meant_0]
        simp (disch := omega) only [nI_ltI, nI_eq, nI_add, nI_clamp, ib_n, pk_mul, q_and, q_or, q_dn, q_shl, q_shlm, q_p1, if_true, if_false, ↓reduceIte, Option.bind_some, bI_0, bI_1, bI_01, b_or, Nat.not_lt_zero, Nat.zero_add, Bool.false_eq_true, Bool.true_eq_false, or_false, or_true, true_or, false_or, f2]
        simp
    · refine ⟨oI (if F = 0 then none else (tlG A.1 F (nT A.1)).map Prod.fst), ?_, ?_⟩
      · rw [sX6_meant_0]
        simp (disch := omega) only [nI_ltI, nI_eq, nI_add, nI_clamp, ib_n, pk_mul, q_and, q_or, q_dn, q_shl, q_shlm, q_p1, if_true, if_false, ↓reduceIte, Option.bind_some, bI_0, bI_1, bI_01, b_or, Nat.not_lt_zero, Nat.zero_add, Bool.false_eq_true, Bool.true_eq_false, or_false, or_true, true_or, false_or, f1]
        rw [m_mostTelling 37 hF hsel hT wT]
        by_cases h0 : F = 0 <;> simp [h0]
      · rw [sX7_meant_0]
        simp (disch := omega) only [nI_ltI, nI_eq, nI_add, nI_clamp, ib_n, pk_mul, q_and, q_or, q_dn, q_shl, q_shlm, q_p1, if_true, if_false, ↓reduceIte, Option.bind_some, bI_0, bI_1, bI_01, b_or, Nat.not_lt_zero, Nat.zero_add, Bool.false_eq_true, Bool.true_eq_false, or_false, or_true, true_or, false_or, f2]
        rw [n_toAsk 37 hF2 mT wT]
        simp
  · have hx := bool_ne hx
    have n0 := hsI_ne (by decide) hx (c := 0) (by decide)
    have n1 := hsI_ne (by decide) hx (c := 1) (by decide)
    have n2 := hsI_ne (by decide) hx (c := 2) (by decide)
    have n3 := hsI_ne (by decide) hx (c := 3) (by decide)
    exact ⟨-1, by rw [sX6_meant_0]; simp (disch := omega) only [nI_ltI, nI_eq, nI_add, nI_clamp, ib_n, pk_mul, q_and, q_or, q_dn, q_shl, q_shlm, q_p1, if_true, if_false, ↓reduceIte, Option.bind_some, bI_0, bI_1, bI_01, b_or, Nat.not_lt_zero, Nat.zero_add, Bool.false_eq_true, Bool.true_eq_false, or_false, or_true, true_or, false_or, f1, n0, n1, n2, n3], by rw [sX7_meant_0]; simp (disch := omega) only [nI_ltI, nI_eq, nI_add, nI_clamp, ib_n, pk_mul, q_and, q_or, q_dn, q_shl, q_shlm, q_p1, if_true, if_false, ↓reduceIte, Option.bind_some, bI_0, bI_1, bI_01, b_or, Nat.not_lt_zero, Nat.zero_add, Bool.false_eq_true, Bool.true_eq_false, or_false, or_true, true_or, false_or, f2, n0, n1, n2, n3]⟩
end
