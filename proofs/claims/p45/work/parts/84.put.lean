/-! THE LAW TELLS ITS TEXT: put, words, letters, numbers. -/
section
theorem d8 {n : Nat} : n % 8 ≠ 7 → (n + 1) / 8 = n / 8 := fun h => by omega
theorem drop_snoc {α : Type} {l : List α} {c : α} {k : Nat} (h : k ≤ l.length) : (l ++ [c]).drop k = l.drop k ++ [c] := by
  rw [List.drop_append_of_le_length h]
theorem gd_app {l : List Nat} {c j : Nat} (h : j < l.length) : (l ++ [c]).getD j 0 = l.getD j 0 := by
  rw [List.getD_eq_getElem?_getD, List.getD_eq_getElem?_getD, List.getElem?_append_left h]
theorem l_put (d : Nat) {O : Mem_} {bs : List Nat} {c : Nat} (h : TP O bs) (hb : ∀ x ∈ bs, x < 256) (hc : c < 256) (hl : bs.length < 400) : ∃ O', ex (d + 3) 123 0 [some (vr 6 0 0), some (vr 7 0 6), some (vi (nI c))] [] O = some (nI 0, O') ∧ TP O' (bs ++ [c]) ∧ FrW O O' := by
  obtain ⟨tp, w, ci, t1, t2, r0, r1, r2⟩ := h
  have hlen : (bs.drop (8 * (bs.length / 8))).length = bs.length % 8 := by rw [List.length_drop]; omega
  have hdb : ∀ x ∈ bs.drop (8 * (bs.length / 8)), x < 256 := fun x hx => hb x (List.mem_of_mem_drop hx)
  have hpl := pv_lt _ _ hlen hdb
  have hv7 : (rdL O 7 0 6 0).toBitVec.toNat < 256 ^ 7 := by
    rw [r0]
    exact Nat.lt_of_lt_of_le hpl (Nat.pow_le_pow_right (by decide) (by omega))
  have hsh := shl8 (rdL O 7 0 6 0) c hc hv7
  obtain ⟨k1, k2, -⟩ := k64 bs.length (by omega)
  obtain ⟨-, k3, -⟩ := k64 (bs.length + 1) (by omega)
  generalize hv : ((rdL O 7 0 6 0 <<< ((nI 8).toInt64 &&& 63)) ||| (nI c).toInt64) = v at hsh
  generalize hO1 : upL O 7 0 6 0 v = O1
  have a0 : rdL O1 7 0 6 0 = v := by rw [← hO1, rL_eq]
  have a1 : rdL O1 7 0 6 1 = Int64.ofNat bs.length := by rw [← hO1, rL_ne _ _ _ _ _ _ (by decide), r1]
  have a2 : rdL O1 7 0 6 2 = 0 := by rw [← hO1, rL_ne _ _ _ _ _ _ (by decide), r2]
  have f1 : FrW O O1 := ⟨fun x _ z => by rw [← hO1]; exact funext fun q => uL_row (Or.inl z), fun p z => by rw [← hO1]; exact uL_p z⟩
  have g1 : ∀ x, x ≠ 7 → O1 x = O x := fun x z => by rw [← hO1]; exact funext fun q => uL_row (Or.inl z)
  generalize hO2 : upL O1 7 0 6 1 (Int64.ofNat (bs.length + 1)) = O2
  have b0 : rdL O2 7 0 6 0 = v := by rw [← hO2, rL_ne _ _ _ _ _ _ (by decide), a0]
  have b1 : rdL O2 7 0 6 1 = Int64.ofNat (bs.length + 1) := by rw [← hO2, rL_eq]
  have b2 : rdL O2 7 0 6 2 = 0 := by rw [← hO2, rL_ne _ _ _ _ _ _ (by decide), a2]
  have f2 : FrW O O2 := f1.trans ⟨fun x _ z => by rw [← hO2]; exact funext fun q => uL_row (Or.inl z), fun p z => by rw [← hO2]; exact uL_p z⟩
  have g2 : ∀ x, x ≠ 7 → O2 x = O x := fun x z => by rw [← hO2]; exact (funext fun q => uL_row (Or.inl z)).trans (g1 x z)
  have c2 : CI O2 (tpA tp) := ci.of7 g2
  have hpv : v.toBitVec.toNat = pv (bs.drop (8 * (bs.length / 8)) ++ [c]) := by rw [hsh, r0, pv_snoc]
  have i0 : (nI 0).toNatClampNeg = 0 := by decide
  have i1 : (nI 1).toNatClampNeg = 1 := by decide
  have i2 : (nI 2).toNatClampNeg = 2 := by decide
  have j0 : ib (nI 0) 3 = true := by decide
  have j1 : ib (nI 1) 3 = true := by decide
  have j2 : ib (nI 2) 3 = true := by decide
  have st := sL_put_0 (d + 2) O (nI c)
  rw [i0, i1, i2, hv, hO1, a1, k1, hO2, if_pos j0, if_pos j0, if_pos j1, if_pos j1, if_pos j1, if_neg (by decide), b1] at st
  by_cases h8 : (bs.length + 1) % 8 = 0
  · rw [if_pos (k3.mpr h8), if_pos j2, if_pos j0, b0] at st
    have hf : ¬ 392 < (tpA tp).2.2.2.1.1 := by
      show ¬ 392 < tp.1
      omega
    obtain ⟨O3, e3, w3, c3, f3⟩ := a_feed w c2 d v hf
    rw [e3, Option.bind_some, b2] at st
    have hpos : ¬ nI ((tpA tp).2.2.2.1.1 + 8) < nI 0 := by
      have : (tpA tp).2.2.2.1.1 = tp.1 := rfl
      rw [this, nI_ltI (by omega) (by decide)]
      omega
    rw [if_neg hpos, if_pos j2, if_pos j0] at st
    have hO5 : ∃ O5, upL (upL O3 7 0 6 2 (0 + 0)) 7 0 6 0 0 = O5 := ⟨_, rfl⟩
    obtain ⟨O5, hO5⟩ := hO5
    have st : ex (d + 3) 123 0 [some (vr 6 0 0), some (vr 7 0 6), some (vi (nI c))] [] O = some (nI 0, O5) := by rw [← hO5]; exact st
    have g5 : ∀ x, x ≠ 7 → O5 x = O3 x := fun x z => by
      rw [← hO5]
      exact (funext fun q => uL_row (Or.inl z)).trans (funext fun q => uL_row (Or.inl z))
    have n8 : (bs ++ [c]).length = bs.length + 1 := by rw [List.length_append]; rfl
    have hd8 : (bs.length + 1) / 8 = bs.length / 8 + 1 := by omega
    refine ⟨O5, st, ⟨tpf tp v 8, w3, c3.of7 g5, ?_, fun j hj => ?_, ?_, ?_, ?_⟩, f2.trans ⟨fun x z3 z7 => (g5 x z7).trans (f3 x z3), fun p z => ?_⟩⟩
    · rw [n8, hd8]
      show tp.1 + 8 = _
      omega
    · rw [n8, hd8] at hj
      show (if tp.1 ≤ j then byt v (7 - (j - tp.1)) else tp.2 j) = _
      by_cases hlt : tp.1 ≤ j
      · rw [if_pos hlt]
        have hl8 : (bs.drop (8 * (bs.length / 8)) ++ [c]).length = 8 := by rw [List.length_append, hlen, List.length_singleton]; omega
        have hdb2 : ∀ x ∈ bs.drop (8 * (bs.length / 8)) ++ [c], x < 256 := fun x hx => by
          rcases List.mem_append.mp hx with hx | hx
          · exact hdb x hx
          · rw [List.mem_singleton.mp hx]; exact hc
        have hby := pv_byt 8 _ hl8 hdb2 (j - tp.1) (by omega)
        unfold byt
        rw [hpv, Nat.pow_mul, show (2 : Nat) ^ 8 = 256 by decide]
        have e7 : 8 - 1 - (j - tp.1) = 7 - (j - tp.1) := by omega
        rw [e7] at hby
        rw [hby, ← drop_snoc (by omega), List.getD_eq_getElem?_getD, List.getElem?_drop, ← List.getD_eq_getElem?_getD, t1]
        congr 1
        omega
      · rw [if_neg hlt, t2 j (by omega), gd_app (by omega)]
    · rw [← hO5, rL_eq, n8, hd8, List.drop_eq_nil_of_le (by rw [n8]; omega)]
      decide
    · rw [← hO5, rL_ne _ _ _ _ _ _ (by decide), rL_ne _ _ _ _ _ _ (by decide), n8, rL_of (congrFun (congrFun (f3 7 (by decide)) 0) 6), b1]
    · rw [← hO5, rL_ne _ _ _ _ _ _ (by decide), rL_eq]
      decide
    · rw [← hO5, uL_p z, uL_p z]
      exact congrFun (congrFun (f3 7 (by decide)) 0) p
  · rw [if_neg (fun z => h8 (k3.mp z))] at st
    have n8 : (bs ++ [c]).length = bs.length + 1 := by rw [List.length_append]; rfl
    have hd8 : (bs.length + 1) / 8 = bs.length / 8 := by omega
    refine ⟨O2, st, ⟨tp, w, c2, by rw [n8, hd8]; exact t1, fun j hj => ?_, ?_, by rw [n8]; exact b1, b2⟩, f2⟩
    · rw [n8, hd8] at hj
      rw [t2 j hj, gd_app (by omega)]
    · rw [b0, hpv, n8, hd8, drop_snoc (by omega)]
/-- the bytes of a word that are letters, the first k of eight -/
def wl (v : Int64) : Nat → List Nat
  | 0 => []
  | k + 1 => if 0 < byt v (7 - k) then wl v k ++ [byt v (7 - k)] else wl v k
theorem wl_lt (v : Int64) : ∀ k, ∀ x ∈ wl v k, x < 256
  | 0, x, h => by cases h
  | k + 1, x, h => by
    unfold wl at h
    split at h
    · rcases List.mem_append.mp h with h | h
      · exact wl_lt v k x h
      · rw [List.mem_singleton.mp h]; exact byt_lt v _
    · exact wl_lt v k x h
theorem wl_len (v : Int64) : ∀ k, (wl v k).length ≤ k
  | 0 => Nat.le_refl _
  | k + 1 => by
    have := wl_len v k
    unfold wl
    split
    · rw [List.length_append, List.length_singleton]; omega
    · omega
theorem byt_w (v : Int64) {i : Nat} (hi : i < 8) : Int64.toInt32 (v >>> ((nI (8 * i)).toInt64 &&& 63)) &&& nI 255 = nI (byt v i) := by
  rw [c_s _ (by omega), pk_and _ 8 (by decide)]
  congr 1
  have e1 : ∀ y : Int64, (Int64.toInt32 y).toBitVec.toNat = y.toBitVec.toNat % 2 ^ 32 := fun y => by
    rw [Int64.toBitVec_toInt32, BitVec.signExtend_eq_setWidth_of_le _ (by decide), BitVec.toNat_setWidth]
  have e3 : (v >>> Int64.ofNat (8 * i)).toBitVec = v.toBitVec.sshiftRight (8 * i) := by
    show v.toBitVec.sshiftRight' _ = _
    rw [BitVec.sshiftRight', c_sm _ (by omega)]
  rw [e1, e3, Nat.mod_mod_of_dvd _ (by decide), byt]
  apply Nat.eq_of_testBit_eq
  intro j
  rw [show (256 : Nat) = 2 ^ 8 by decide, Nat.testBit_mod_two_pow, Nat.testBit_mod_two_pow, Nat.testBit_div_two_pow]
  by_cases hj : j < 8
  · rw [decide_eq_true hj, Bool.true_and, Bool.true_and]
    show (v.toBitVec.sshiftRight (8 * i)).getLsbD j = v.toBitVec.getLsbD (j + 8 * i)
    rw [BitVec.getLsbD_sshiftRight, if_pos (by omega), decide_eq_false (by omega)]
    simp [Nat.add_comm]
  · rw [decide_eq_false hj, Bool.false_and, Bool.false_and]
theorem l_word (d : Nat) {O : Mem_} {bs : List Nat} (v : Int64) (h : TP O bs) (hb : ∀ x ∈ bs, x < 256) (hl : bs.length + 8 ≤ 400) : ∃ O', ex (d + 4) 124 0 [some (vr 6 0 0), some (vr 7 0 6), some (vl v), none] [] O = some (nI 0, O') ∧ TP O' (bs ++ wl v 8) ∧ FrW O O' := by
  rw [sL_word_0]
  refine Exists.elim (lp_i (fun k (O : Mem_) => ex (d + 4) 124 4 [some (vr 6 0 0), some (vr 7 0 6), some (vl v), none, some (vi (nI (64 - 8 * k) + (-8)))] [] O) (fun k O' => TP O' (bs ++ wl v k) ∧ FrW O O') 8 ?_ O ⟨by rw [show wl v 0 = [] from rfl, List.append_nil]; exact h, FrW.rf⟩) ?_
  · intro k O' hk ⟨h1, h2⟩
    have e7 : nI (64 - 8 * k) + (-8) = nI (8 * (7 - k)) := by rw [show 64 - 8 * k = 8 * (7 - k) + 8 by omega, nI_m8]
    have e8 : nI (64 - 8 * (k + 1)) = nI (8 * (7 - k)) := by rw [show 64 - 8 * (k + 1) = 8 * (7 - k) by omega]
    have hwl := wl_len v k
    have hb2 : ∀ x ∈ bs ++ wl v k, x < 256 := fun x hx => by
      rcases List.mem_append.mp hx with hx | hx
      · exact hb x hx
      · exact wl_lt v k x hx
    have hby := byt_lt v (7 - k)
    have st := sL_word_4 (d + 3) O' v (nI (8 * (7 - k)))
    rw [if_neg (by rw [nI_ltI (by omega) (by decide)]; omega), byt_w v (by omega)] at st
    have hlt : (nI 0 < nI (byt v (7 - k))) ↔ 0 < byt v (7 - k) := nI_ltI (by decide) (by omega)
    rw [e7, e8]
    by_cases hp : 0 < byt v (7 - k)
    · obtain ⟨O2, e2, t2, f2⟩ := l_put d h1 hb2 hby (by rw [List.length_append]; omega)
      rw [if_pos (hlt.mpr hp), e2, Option.bind_some] at st
      refine ⟨O2, st, ?_, h2.trans f2⟩
      rw [wl, if_pos hp, ← List.append_assoc]
      exact t2
    · rw [if_neg (fun z => hp (hlt.mp z))] at st
      refine ⟨O', st, ?_, h2⟩
      rw [wl, if_neg hp]
      exact h1
  · rintro O' ⟨e, h1, h2⟩
    refine ⟨O', ?_, h1, h2⟩
    refine Eq.trans ?_ (e.trans ?_)
    · rw [show nI (64 - 8 * 0) + (-8) = nI 56 by decide]
    · refine (sL_word_4 ..).trans ?_
      rw [if_pos (by decide)]
theorem l_letters (d : Nat) {O : Mem_} {bs : List Nat} {a : Nat} (ha : a < 256) (h : TP O bs) (hb : ∀ x ∈ bs, x < 256) (hl : bs.length + 10 ≤ 400) : ∃ O', ex (d + 4) 128 0 [some (vr 6 0 0), some (vr 7 0 6), some (vi (nI a))] [] O = some (nI 0, O') ∧ TP O' (bs ++ txL a) ∧ FrW O O' := by
  obtain ⟨O1, e1, t1, f1⟩ := l_put d h hb (c := 32) (by decide) (by omega)
  have hb1 : ∀ x ∈ bs ++ [32], x < 256 := fun x hx => by
    rcases List.mem_append.mp hx with hx | hx
    · exact hb x hx
    · rw [List.mem_singleton.mp hx]; decide
  have st := sL_letters_0 (d + 3) O (nI a)
  rw [e1, Option.bind_some] at st
  -- the loop, from any start
  have loop : ∀ (O1 : Mem_) (cs : List Nat), TP O1 cs → (∀ x ∈ cs, x < 256) → cs.length + 8 ≤ 400 → ∃ O', ex (d + 4) 128 20 [some (vr 6 0 0), some (vr 7 0 6), some (vi (nI a)), some (vi (nI 0))] [] O1 = some (nI 0, O') ∧ TP O' (cs ++ ltp a 8) ∧ FrW O1 O' := by
    intro O1 cs h hb hl
    refine Exists.elim (lp_i (fun k (O : Mem_) => ex (d + 4) 128 20 [some (vr 6 0 0), some (vr 7 0 6), some (vi (nI a)), some (vi (nI k))] [] O) (fun k O' => TP O' (cs ++ ltp a k) ∧ FrW O1 O') 8 ?_ O1 ⟨by rw [show ltp a 0 = [] from rfl, List.append_nil]; exact h, FrW.rf⟩) ?_
    · intro k O' hk ⟨h1, h2⟩
      have hll := ltp_len a k
      have hb2 : ∀ x ∈ cs ++ ltp a k, x < 256 := fun x hx => by
        rcases List.mem_append.mp hx with hx | hx
        · exact hb x hx
        · have := ltp_in a k x hx; omega
      have st := sL_letters_20 (d + 3) O' (nI a) (nI k)
      rw [if_pos (by rw [nI_ltI (by omega) (by decide)]; exact hk), nI_add, nI_add] at st
      by_cases hbt : a.testBit k = true
      · rw [if_pos ((q_bit a k (by omega) (by omega)).mpr hbt)] at st
        obtain ⟨O2, e2, t2, f2⟩ := l_put d h1 hb2 (c := 97 + k) (by omega) (by rw [List.length_append]; omega)
        rw [e2, Option.bind_some] at st
        refine ⟨O2, st, ?_, h2.trans f2⟩
        rw [ltp, if_pos hbt, ← List.append_assoc]
        exact t2
      · rw [if_neg (fun z => hbt ((q_bit a k (by omega) (by omega)).mp z))] at st
        refine ⟨O', st, ?_, h2⟩
        rw [ltp, if_neg hbt]
        exact h1
    · rintro O' ⟨e, h1, h2⟩
      refine ⟨O', e.trans ?_, h1, h2⟩
      refine (sL_letters_20 ..).trans ?_
      rw [if_neg (by rw [nI_ltI (by decide) (by decide)]; decide)]
  by_cases h0 : a = 0
  · rw [if_pos (by rw [h0])] at st
    obtain ⟨O2, e2, t2, f2⟩ := l_put d t1 hb1 (c := 45) (by decide) (by rw [List.length_append, List.length_singleton]; omega)
    rw [e2, Option.bind_some] at st
    have hb3 : ∀ x ∈ bs ++ [32] ++ [45], x < 256 := fun x hx => by
      rcases List.mem_append.mp hx with hx | hx
      · exact hb1 x hx
      · rw [List.mem_singleton.mp hx]; decide
    obtain ⟨O3, e3, t3, f3⟩ := loop O2 _ t2 hb3 (by simp only [List.length_append, List.length_singleton]; omega)
    refine ⟨O3, st.trans e3, ?_, (f1.trans f2).trans f3⟩
    have el : ltp a 8 = [] := by rw [h0]; decide
    rw [el, List.append_nil] at t3
    unfold txL
    rw [if_pos h0]
    rw [List.append_assoc] at t3
    exact t3
  · rw [if_neg (by rw [nI_eq (by omega) (by decide)]; exact h0)] at st
    obtain ⟨O3, e3, t3, f3⟩ := loop O1 _ t1 hb1 (by rw [List.length_append, List.length_singleton]; omega)
    refine ⟨O3, st.trans e3, ?_, f1.trans f3⟩
    unfold txL
    rw [if_neg h0]
    rw [List.append_assoc] at t3
    exact t3
theorem l_number (d : Nat) {O : Mem_} {bs : List Nat} {v : Nat} (hv : v < 10) (h : TP O bs) (hb : ∀ x ∈ bs, x < 256) (hl : bs.length + 2 ≤ 400) : ∃ O', ex (d + 4) 126 0 [some (vr 6 0 0), some (vr 7 0 6), some (vi (nI v))] [] O = some (nI 0, O') ∧ TP O' (bs ++ txN v) ∧ FrW O O' := by
  obtain ⟨O1, e1, t1, f1⟩ := l_put d h hb (c := 32) (by decide) (by omega)
  have hb1 : ∀ x ∈ bs ++ [32], x < 256 := fun x hx => by
    rcases List.mem_append.mp hx with hx | hx
    · exact hb x hx
    · rw [List.mem_singleton.mp hx]; decide
  obtain ⟨O2, e2, t2, f2⟩ := l_put d t1 hb1 (c := 48 + v) (by omega) (by rw [List.length_append, List.length_singleton]; omega)
  have hv0 : ¬ nI v < nI 0 := by rw [nI_ltI (by omega) (by decide)]; omega
  have s0 := sL_number_0 (d + 3) O (nI v)
  rw [e1, Option.bind_some, if_neg hv0] at s0
  have s18 := sL_number_18 (d + 3) O1 (nI v)
  rw [if_neg hv0] at s18
  have step : ∀ by_ : Nat, 1 < by_ → 10 ≤ by_ → by_ ≤ 1000 → ex (d + 4) 126 34 [some (vr 6 0 0), some (vr 7 0 6), none, some (vi (nI v)), some (vi (nI by_))] [] O1 = ex (d + 4) 126 34 [some (vr 6 0 0), some (vr 7 0 6), none, some (vi (nI v)), some (vi (nI by_ / nI 10))] [] O1 := fun y h1 h2 h3 => by
    refine (sL_number_34 (d + 3) O1 (nI v) (nI y)).trans ?_
    rw [if_pos (by rw [nI_ltI (by decide) (by omega)]; omega), if_pos (by rw [nI_ltI (by omega) (by omega)]; omega), if_neg (by rw [nI_eq (by omega) (by decide)]; omega), if_neg (by decide)]
  have a3 := step 1000 (by decide) (by decide) (by decide)
  rw [show nI 1000 / nI 10 = nI 100 by decide] at a3
  have a2 := step 100 (by decide) (by decide) (by decide)
  rw [show nI 100 / nI 10 = nI 10 by decide] at a2
  have a1 := step 10 (by decide) (by decide) (by decide)
  rw [show nI 10 / nI 10 = nI 1 by decide] at a1
  have b1 : ex (d + 4) 126 34 [some (vr 6 0 0), some (vr 7 0 6), none, some (vi (nI v)), some (vi (nI 1))] [] O1 = ex (d + 4) 126 51 [some (vr 6 0 0), some (vr 7 0 6), none, some (vi (nI v)), some (vi (nI 1))] [] O1 := by
    refine (sL_number_34 (d + 3) O1 (nI v) (nI 1)).trans ?_
    rw [if_pos (by decide), if_pos rfl]
    split <;> rfl
  have s51 := sL_number_51 (d + 3) O1 (nI v) (nI 1)
  have ev : nI 48 + (nI v / nI 1 - nI v / nI 1 / nI 10 * nI 10) = nI (48 + v) := by
    have key : ∀ v, v < 10 → nI 48 + (nI v / nI 1 - nI v / nI 1 / nI 10 * nI 10) = nI (48 + v) := by decide
    exact key v hv
  rw [if_neg (by decide), if_neg (by decide), ev, e2, Option.bind_some, if_neg (by decide), show nI 1 / nI 10 = nI 0 by decide] at s51
  have c0 : ex (d + 4) 126 34 [some (vr 6 0 0), some (vr 7 0 6), none, some (vi (nI v)), some (vi (nI 0))] [] O2 = some (nI 0, O2) := by
    refine (sL_number_34 (d + 3) O2 (nI v) (nI 0)).trans ?_
    rw [if_neg (by decide)]
  refine ⟨O2, s0.trans (s18.trans (a3.trans (a2.trans (a1.trans (b1.trans (s51.trans c0)))))), ?_, f1.trans f2⟩
  rw [List.append_assoc] at t2
  exact t2
end
