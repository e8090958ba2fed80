/-! build. -/
section
theorem lp_o {β γ : Type} (F : Nat → β) (c : Nat → Option γ) (R : Nat → γ → β) (n : Nat) (h : ∀ k, k < n → F k = match c k with
    | some r => R k r
    | none => F (k + 1)) : F 0 = match (List.range n).findSome? (fun k => (c k).map fun r => (k, r)) with
    | some p => R p.1 p.2
    | none => F n := by
  have key : ∀ m k, k + m = n → F k = match (List.range' k m).findSome? (fun k => (c k).map fun r => (k, r)) with
      | some p => R p.1 p.2
      | none => F n := by
    intro m
    induction m with
    | zero => intro k hk; simp only [List.range'_zero, List.findSome?_nil]; rw [← hk]; rfl
    | succ m ih =>
      intro k hk
      rw [h k (by omega), List.range'_succ, List.findSome?_cons]
      cases hc : c k with
      | some r => simp
      | none => simp only [Option.map_none]; exact ih (k + 1) (by omega)
  rw [key n 0 (by omega), List.range_eq_range']
def bo (T : Td_) (th way one : Nat) : Option (Option Nat) :=
  if way = 1 then (if tgA T one = th then some none else none)
  else ((List.range (nS T)).find? fun o => !decide (o = one) && decide ((if way = 2 then tgA T one &&& tgA T o else dn (tgA T one) (tgA T o)) = th)).map some
def boW (T : Td_) (th way : Nat) : Option (Nat × Option Nat) := (List.range (nS T)).findSome? fun one => (bo T th way one).map fun r => (one, r)
def boV (c way : Nat) (p : Nat × Option Nat) : Int32 := if c = 0 then nI way else if c = 1 then nI p.1 else oI p.2
section
variable {T : Td_} {O : Mem_} {w : Nat}
theorem m_otherSound (d : Nat) {th way one : Nat} (hth : th < 256) (hw : way < 4) (ho : one < nS T) (hsel : sel (O 6 0 0 1) = w) (hT : CT (O 4 w) T) (wT : WT T) : ex (d + 3) 118 0 [some (vr 6 0 0), some (vi (nI th)), some (vi (nI way)), some (vi (nI one))] [] O = some (match bo T th way one with
    | some o => oI o
    | none => -1, O) := by
  have h4 := wT.2.2.1
  have a1 := tgA_lt wT one
  rw [sX6_otherSound_0, hsel, m_targetThings _ ho hT wT]
  simp only [Option.bind_some]
  by_cases h1 : way = 1
  · subst h1
    simp (disch := omega) only [nI_ltI, nI_eq, nI_add, nI_clamp, ib_n, pk_mul, q_and, q_or, q_dn, q_shl, q_shlm, q_p1, if_true, if_false, ↓reduceIte, Option.bind_some, bI_0, bI_1, bI_01, b_or, Nat.not_lt_zero, Nat.zero_add, Bool.false_eq_true, Bool.true_eq_false, or_false, or_true, true_or, false_or, bo]
    by_cases e : tgA T one = th <;> simp [e]
  · rw [if_neg (by rw [nI_eq (by omega) (by decide)]; exact h1)]
    refine (lp_f (fun o => ex (d + 3) 118 31 [some (vr 6 0 0), some (vi (nI th)), some (vi (nI way)), some (vi (nI one)), some (vi (nI (tgA T one))), some (vi (nI o))] [] O) (fun o => !decide (o = one) && decide ((if way = 2 then tgA T one &&& tgA T o else dn (tgA T one) (tgA T o)) = th)) (fun o => some (nI o, O)) (nS T) (fun o ho' => ?_)).trans ?_
    · have b1 : tgA T one &&& tgA T o ≤ tgA T one := Nat.and_le_left
      have b2 := dn_le (tgA T one) (tgA T o)
      refine (sX6_otherSound_31 ..).trans ?_
      rw [hsel, hT.1.2.2.1, if_pos (nI_lt ho' (by omega)), m_targetThings _ ho' hT wT]
      simp only [Option.bind_some]
      have go : ∀ v, v = (if way = 2 then tgA T one &&& tgA T o else dn (tgA T one) (tgA T o)) → ex (d + 2 + 1) 118 74 [some (vr 6 0 0), some (vi (nI th)), some (vi (nI way)), some (vi (nI one)), some (vi (nI (tgA T one))), some (vi (nI o))] [vi (nI v)] O = if (!decide (o = one) && decide ((if way = 2 then tgA T one &&& tgA T o else dn (tgA T one) (tgA T o)) = th)) = true then some (nI o, O) else ex (d + 3) 118 31 [some (vr 6 0 0), some (vi (nI th)), some (vi (nI way)), some (vi (nI one)), some (vi (nI (tgA T one))), some (vi (nI (o + 1)))] [] O := by
        intro v hv
        have hv2 : v < 256 := by rw [hv]; split <;> omega
        rw [← hv, sX6_otherSound_74]
        simp (disch := omega) only [nI_ltI, nI_eq, nI_add, nI_clamp, ib_n, pk_mul, q_and, q_or, q_dn, q_shl, q_shlm, q_p1, if_true, if_false, ↓reduceIte, Option.bind_some, bI_0, bI_1, bI_01, b_or, Nat.not_lt_zero, Nat.zero_add, Bool.false_eq_true, Bool.true_eq_false, or_false, or_true, true_or, false_or]
        by_cases e1 : o = one
        · simp [e1]
        · by_cases e2 : v = th <;> simp [e1, e2]
      by_cases h2 : way = 2
      · rw [if_pos (by rw [h2]), q_and]
        exact go _ (by rw [if_pos h2])
      · rw [if_neg (by rw [nI_eq (by omega) (by decide)]; exact h2), q_dn]
        exact go _ (by rw [if_neg h2])
    · rw [bo, if_neg h1]
      cases hf : (List.range (nS T)).find? (fun o => !decide (o = one) && decide ((if way = 2 then tgA T one &&& tgA T o else dn (tgA T one) (tgA T o)) = th)) with
      | some o => rfl
      | none =>
        refine (sX6_otherSound_31 ..).trans ?_
        rw [hsel, hT.1.2.2.1, if_neg (nI_nlt (Nat.le_refl _) (by omega))]
        rfl
theorem bo_o {th way one : Nat} {o : Option Nat} (h4 : nS T ≤ 4) (h : bo T th way one = some o) : ∀ i, o = some i → i < 4 := by
  intro i e
  unfold bo at h
  split at h
  · split at h
    · cases h; cases e
    · cases h
  · obtain ⟨j, hj, rfl⟩ := Option.map_eq_some_iff.mp h
    cases e
    have := List.mem_range.mp (List.mem_of_find?_eq_some hj)
    omega
theorem m_build32 (d : Nat) {m c way : Nat} (hm : m < nM T) (hc : c < 3) (hw : way < 4) (hsel : sel (O 6 0 0 1) = w) (hT : CT (O 4 w) T) (wT : WT T) : ex (d + 4) 100 32 [some (vr 6 0 0), some (vi (nI m)), some (vi (nI c)), some (vi (nI way)), some (vi (nI 0))] [] O = match boW T (are T m) way with
    | some p => some (boV c way p, O)
    | none => ex (d + 4) 100 24 [some (vr 6 0 0), some (vi (nI m)), some (vi (nI c)), some (vi (nI (way + 1)))] [] O := by
  have h4 := wT.2.2.1
  have h12 := wT.2.1
  have am := are_lt wT m
  refine (lp_o (fun one => ex (d + 4) 100 32 [some (vr 6 0 0), some (vi (nI m)), some (vi (nI c)), some (vi (nI way)), some (vi (nI one))] [] O) (fun one => bo T (are T m) way one) (fun one r => some (boV c way (one, r), O)) (nS T) (fun one ho => ?_)).trans ?_
  · refine (sX6_build_32 ..).trans ?_
    rw [hsel, hT.1.2.2.1, if_pos (nI_lt ho (by omega)), nI_clamp (by omega), if_pos (ib_n (by omega) (by decide)), (hT.2.2.1 m hm).2.2.2.1, m_otherSound d am hw ho hsel hT wT]
    simp only [Option.bind_some]
    cases hb : bo T (are T m) way one with
    | none => rw [if_pos rfl, nI_add]
    | some o =>
      have hne : ¬ oI o = -1 := by
        cases o with
        | none => decide
        | some i =>
          have := bo_o h4 hb i rfl
          rcases (by omega : i = 0 ∨ i = 1 ∨ i = 2 ∨ i = 3) with rfl | rfl | rfl | rfl <;> decide
      simp only [hne, if_false, boV]
      simp (disch := omega) only [nI_ltI, nI_eq, nI_add, nI_clamp, ib_n, pk_mul, q_and, q_or, q_dn, q_shl, q_shlm, q_p1, if_true, if_false, ↓reduceIte, Option.bind_some, bI_0, bI_1, bI_01, b_or, Nat.not_lt_zero, Nat.zero_add, Bool.false_eq_true, Bool.true_eq_false, or_false, or_true, true_or, false_or]
      split
      · rfl
      · split <;> rfl
  · unfold boW
    cases (List.range (nS T)).findSome? (fun one => (bo T (are T m) way one).map fun r => (one, r)) with
    | some p => rfl
    | none =>
      refine (sX6_build_32 ..).trans ?_
      rw [hsel, hT.1.2.2.1, if_neg (nI_nlt (Nat.le_refl _) (by omega)), nI_add]
theorem n_build51 (d : Nat) {m c how : Nat} (hm : m < nM T) (hc : c < 3) (hw : 1 ≤ how ∧ how < 4) (hT : MT (O 7 0) T) (wT : WT T) : ex (d + 2) 207 51 [some (vr 7 0 0), some (vi (nI m)), some (vi (nI c)), some (vi (nI (2 ^ nT T - 1))), some (vi (nI how)), some (vi (nI 0))] [] O = match boW T (are T m) how with
    | some p => some (boV c how p, O)
    | none => ex (d + 2) 207 42 [some (vr 7 0 0), some (vi (nI m)), some (vi (nI c)), some (vi (nI (2 ^ nT T - 1))), some (vi (nI (how + 1)))] [] O := by
  have h4 := wT.2.2.1
  have h12 := wT.2.1
  have am := are_lt wT m
  refine (lp_o (fun a => ex (d + 2) 207 51 [some (vr 7 0 0), some (vi (nI m)), some (vi (nI c)), some (vi (nI (2 ^ nT T - 1))), some (vi (nI how)), some (vi (nI a))] [] O) (fun a => bo T (are T m) how a) (fun a r => some (boV c how (a, r), O)) (nS T) (fun a ha => ?_)).trans ?_
  · have ta := tgA_lt wT a
    refine (sX7_build_51 ..).trans ?_
    rw [hT.1.2.2.1, if_pos (nI_lt ha (by omega))]
    -- the end of a try
    have e151 : ∀ b v, v < 256 → ex (d + 2) 207 151 [some (vr 7 0 0), some (vi (nI m)), some (vi (nI c)), some (vi (nI (2 ^ nT T - 1))), some (vi (nI how)), some (vi (nI a)), some (vi (nI b)), some (vi (nI v))] [] O = if v = are T m then some (boV c how (a, if how = 1 then none else some b), O) else ex (d + 2) 207 63 [some (vr 7 0 0), some (vi (nI m)), some (vi (nI c)), some (vi (nI (2 ^ nT T - 1))), some (vi (nI how)), some (vi (nI a)), some (vi (nI (b + 1)))] [] O := by
      intro b v hv
      refine (sX7_build_151 ..).trans ?_
      simp (disch := omega) only [nI_ltI, nI_eq, nI_add, nI_clamp, ib_n, pk_mul, q_and, q_or, q_dn, q_shl, q_shlm, q_p1, if_true, if_false, ↓reduceIte, Option.bind_some, bI_0, bI_1, bI_01, b_or, Nat.not_lt_zero, Nat.zero_add, Bool.false_eq_true, Bool.true_eq_false, or_false, or_true, true_or, false_or, (hT.2.2.1 m hm).2.2, boV]
      by_cases e : v = are T m
      · rw [if_pos e, if_pos e]
        by_cases c0 : c = 0
        · simp [c0]
        · by_cases c1 : c = 1
          · simp [c1]
          · by_cases h1 : how = 1 <;> simp [c0, c1, h1, oI]
      · rw [if_neg e, if_neg e]
    by_cases h1 : how = 1
    · subst h1
      rw [sX7_build_63, if_pos rfl, sX7_build_79, if_pos (by decide), if_pos rfl, n_targetOf _ ha hT wT]
      simp only [Option.bind_some]
      rw [sX7_build_136, if_pos rfl, e151 0 _ (by omega)]
      simp only [bo, if_true]
      by_cases e : tgA T a = are T m
      · rw [if_pos e, if_pos e]
      · rw [if_neg e, if_neg e]
        dsimp only
        rw [sX7_build_63, if_pos rfl, sX7_build_79, if_neg (by decide), nI_add]
    · refine (lp_f (fun b => ex (d + 2) 207 63 [some (vr 7 0 0), some (vi (nI m)), some (vi (nI c)), some (vi (nI (2 ^ nT T - 1))), some (vi (nI how)), some (vi (nI a)), some (vi (nI b))] [] O) (fun o => !decide (o = a) && decide ((if how = 2 then tgA T a &&& tgA T o else dn (tgA T a) (tgA T o)) = are T m)) (fun b => some (boV c how (a, some b), O)) (nS T) (fun b hb => ?_)).trans ?_
      · have b1 : tgA T a &&& tgA T b ≤ tgA T a := Nat.and_le_left
        have b2 := dn_le (tgA T a) (tgA T b)
        have h1' : ¬ nI how = nI 1 := by rw [nI_eq (by omega) (by decide)]; exact h1
        refine (sX7_build_63 ..).trans ?_
        rw [if_neg h1', sX7_build_79, hT.1.2.2.1, if_pos (nI_lt hb (by omega)), if_neg h1']
        have go : ∀ v, v = (if how = 2 then tgA T a &&& tgA T b else dn (tgA T a) (tgA T b)) → ex (d + 2) 207 136 [some (vr 7 0 0), some (vi (nI m)), some (vi (nI c)), some (vi (nI (2 ^ nT T - 1))), some (vi (nI how)), some (vi (nI a)), some (vi (nI b))] [vi (nI v)] O = if (!decide (b = a) && decide ((if how = 2 then tgA T a &&& tgA T b else dn (tgA T a) (tgA T b)) = are T m)) = true then some (boV c how (a, some b), O) else ex (d + 2) 207 63 [some (vr 7 0 0), some (vi (nI m)), some (vi (nI c)), some (vi (nI (2 ^ nT T - 1))), some (vi (nI how)), some (vi (nI a)), some (vi (nI (b + 1)))] [] O := by
          intro v hv
          have hv2 : v < 256 := by rw [hv]; split <;> omega
          rw [← hv, sX7_build_136, if_neg h1', e151 b v hv2, if_neg h1]
          by_cases e1 : a = b
          · subst e1
            rw [if_pos rfl, nI_add]
            simp
          · have e2 : ¬ b = a := fun q => e1 q.symm
            rw [if_neg (by rw [nI_eq (by omega) (by omega)]; exact e1)]
            by_cases e3 : v = are T m <;> simp [e2, e3]
        by_cases h2 : how = 2
        · rw [if_pos (by rw [h2]), n_targetOf _ ha hT wT]
          simp only [Option.bind_some]
          rw [n_targetOf _ hb hT wT]
          simp only [Option.bind_some]
          rw [q_and]
          exact go _ (by rw [if_pos h2])
        · rw [if_neg (by rw [nI_eq (by omega) (by decide)]; exact h2), n_targetOf _ ha hT wT]
          simp only [Option.bind_some]
          rw [n_targetOf _ hb hT wT]
          simp only [Option.bind_some]
          have hlt : dn (tgA T a) (tgA T b) < 2 ^ nT T := Nat.lt_of_le_of_lt b2 (ms_lt _ _)
          rw [q_dn, q_and, Nat.and_two_pow_sub_one_eq_mod, Nat.mod_eq_of_lt hlt]
          exact go _ (by rw [if_neg h2])
      · rw [bo, if_neg h1]
        cases hf : (List.range (nS T)).find? (fun o => !decide (o = a) && decide ((if how = 2 then tgA T a &&& tgA T o else dn (tgA T a) (tgA T o)) = are T m)) with
        | some o => rfl
        | none =>
          have h1' : ¬ nI how = nI 1 := by rw [nI_eq (by omega) (by decide)]; exact h1
          refine (sX7_build_63 ..).trans ?_
          rw [if_neg h1', sX7_build_79, hT.1.2.2.1, if_neg (nI_nlt (Nat.le_refl _) (by omega)), nI_add]
          rfl
  · unfold boW
    cases (List.range (nS T)).findSome? (fun one => (bo T (are T m) how one).map fun r => (one, r)) with
    | some p => rfl
    | none =>
      refine (sX7_build_51 ..).trans ?_
      rw [hT.1.2.2.1, if_neg (nI_nlt (Nat.le_refl _) (by omega)), nI_add]
end
theorem hsI_no {α : Type} {y : Int32} {n : Nat} (hn : n + 1 < 2 ^ 31) (h : hsI y (n + 1) = false) (a b : α) : (if y < nI 0 then a else (if nI n < y then a else b)) = a := by
  unfold hsI at h
  by_cases z : y < nI 0
  · rw [if_pos z]
  · rw [decide_eq_false z] at h
    have z2 : ¬ y < nI (n + 1) := fun q => by rw [decide_eq_true q] at h; cases h
    obtain ⟨j, hj, rfl⟩ := nI_of z
    rw [nI_ltI hj hn] at z2
    rw [if_neg z, if_pos (nI_lt (by omega) hj)]
theorem hsI_ye {α : Type} {c n : Nat} (hn : n < 2 ^ 31) (hc : c ≤ n) (a b : α) : (if nI c < nI 0 then a else (if nI n < nI c then a else b)) = b := by
  rw [if_neg (by rw [nI_ltI (by omega) (by decide)]; omega), if_neg (nI_nlt hc hn)]
theorem q_build (x y : Int32) : Cal 100 207 [some (vi x), some (vi y)] := Cal.q fun O A hw hc hm => by
  obtain ⟨w, cw, c9, hT, hS, hI, hB, hM, hP, hF, hSh⟩ := hc
  have hsel := cw.sel
  obtain ⟨mT, mSc, mIm, mN, mP, mF, mSh, mt⟩ := hm
  have hw' := hw
  obtain ⟨wT, wS, wI, wP, wF, wSh, wt⟩ := hw
  have h8 := wT.1
  have h12 := wT.2.1
  have h4 := wT.2.2.1
  have h6 := wT.2.2.2.1
  have wMd : WMd A.1 (mds A.1 A.2.1.2.1 A.2.1.1) := mds_wf _ (by have := wS.1; omega)
  have kmC : ∀ k, k < nK A.1 → KM (O 0 0) k ((mds A.1 A.2.1.2.1 A.2.1.1).2 k) := fun k hk => hM.2.2 k hk (by rw [Nat.testBit_two_pow_sub_one, decide_eq_true hk])
  have kmN : ∀ k, k < nK A.1 → KN (O 7 0) (10 * k) ((mds A.1 A.2.1.2.1 A.2.1.1).2 k) := fun k hk => by have := mN.1 k hk; rwa [Nat.zero_add] at this
  by_cases hx : hsI x (nM A.1) = true
  · have hx' := hx
    obtain ⟨m, hm, rfl⟩ := hsI_of (by omega) hx
    by_cases hy : hsI y 3 = true
    · have hy' := hy
      obtain ⟨c, hcc, rfl⟩ := hsI_of (by decide) hy
      have step : ∀ way, 1 ≤ way → way < 4 → ∀ r, (ex (36 + 4) 100 24 [some (vr 6 0 0), some (vi (nI m)), some (vi (nI c)), some (vi (nI (way + 1)))] [] O = some (r, O) ∧ ex (38 + 2) 207 42 [some (vr 7 0 0), some (vi (nI m)), some (vi (nI c)), some (vi (nI (2 ^ nT A.1 - 1))), some (vi (nI (way + 1)))] [] O = some (r, O)) → ∃ r, ex (36 + 4) 100 24 [some (vr 6 0 0), some (vi (nI m)), some (vi (nI c)), some (vi (nI way))] [] O = some (r, O) ∧ ex (38 + 2) 207 42 [some (vr 7 0 0), some (vi (nI m)), some (vi (nI c)), some (vi (nI (2 ^ nT A.1 - 1))), some (vi (nI way))] [] O = some (r, O) := by
        intro way h1 h2 r hr
        have e1 := m_build32 36 (O := O) (w := w) (way := way) hm hcc h2 hsel hT wT
        have e2 := n_build51 38 (O := O) (how := way) hm hcc ⟨h1, h2⟩ mT wT
        cases hb : boW A.1 (are A.1 m) way with
        | some p =>
          rw [hb] at e1 e2
          refine ⟨boV c way p, (sX6_build_24 ..).trans ?_, (sX7_build_42 ..).trans ?_⟩
          · rw [if_neg (nI_nlt (by omega) (by decide))]; exact e1
          · rw [if_pos (nI_lt h2 (by decide))]; exact e2
        | none =>
          rw [hb] at e1 e2
          refine ⟨r, (sX6_build_24 ..).trans ?_, (sX7_build_42 ..).trans ?_⟩
          · rw [if_neg (nI_nlt (by omega) (by decide))]; exact e1.trans hr.1
          · rw [if_pos (nI_lt h2 (by decide))]; exact e2.trans hr.2
      have s4 : ex (36 + 4) 100 24 [some (vr 6 0 0), some (vi (nI m)), some (vi (nI c)), some (vi (nI (3 + 1)))] [] O = some (oI none, O) ∧ ex (38 + 2) 207 42 [some (vr 7 0 0), some (vi (nI m)), some (vi (nI c)), some (vi (nI (2 ^ nT A.1 - 1))), some (vi (nI (3 + 1)))] [] O = some (oI none, O) := ⟨(sX6_build_24 ..).trans (if_pos (by decide)), (sX7_build_42 ..).trans (if_neg (by decide))⟩
      obtain ⟨r3, s3⟩ := step 3 (by decide) (by decide) _ s4
      obtain ⟨r2, s2⟩ := step 2 (by decide) (by decide) _ s3
      obtain ⟨r1, s1⟩ := step 1 (by decide) (by decide) _ s2
      refine ⟨r1, ?_, ?_⟩
      · rw [sX6_build_0]
        simp (disch := omega) only [nI_ltI, nI_eq, nI_add, nI_clamp, ib_n, pk_mul, q_and, q_or, q_dn, q_shl, q_shlm, q_p1, if_true, if_false, ↓reduceIte, Option.bind_some, bI_0, bI_1, bI_01, b_or, Nat.not_lt_zero, Nat.zero_add, Bool.false_eq_true, Bool.true_eq_false, or_false, or_true, true_or, false_or, hsel, m_hasMeaning (h := hT), hx']
        rw [if_neg (by omega)]
        exact s1.1
      · rw [sX7_build_0]
        simp (disch := omega) only [nI_ltI, nI_eq, nI_add, nI_clamp, ib_n, pk_mul, q_and, q_or, q_dn, q_shl, q_shlm, q_p1, if_true, if_false, ↓reduceIte, Option.bind_some, bI_0, bI_1, bI_01, b_or, Nat.not_lt_zero, Nat.zero_add, Bool.false_eq_true, Bool.true_eq_false, or_false, or_true, true_or, false_or, mT.1.2.1, mT.1.1, m_in _ _ (nI m) (nI 0) (nI (nM A.1) - nI 1) (a := 0) (by decide) rfl, inI_h, hx', m_in _ _ (nI c) (nI 0) (nI 2) (a := 0) (b := 2) (by decide) (by decide), inI_c, hy']
        exact s1.2
    · have hy := bool_ne hy
      refine ⟨-1, ?_, ?_⟩
      · rw [sX6_build_0]
        simp (disch := omega) only [nI_ltI, nI_eq, nI_add, nI_clamp, ib_n, pk_mul, q_and, q_or, q_dn, q_shl, q_shlm, q_p1, if_true, if_false, ↓reduceIte, Option.bind_some, bI_0, bI_1, bI_01, b_or, Nat.not_lt_zero, Nat.zero_add, Bool.false_eq_true, Bool.true_eq_false, or_false, or_true, true_or, false_or, hsel, m_hasMeaning (h := hT), hx']
        exact hsI_no (by decide) hy _ _
      · rw [sX7_build_0]
        simp (disch := omega) only [nI_ltI, nI_eq, nI_add, nI_clamp, ib_n, pk_mul, q_and, q_or, q_dn, q_shl, q_shlm, q_p1, if_true, if_false, ↓reduceIte, Option.bind_some, bI_0, bI_1, bI_01, b_or, Nat.not_lt_zero, Nat.zero_add, Bool.false_eq_true, Bool.true_eq_false, or_false, or_true, true_or, false_or, mT.1.2.1, m_in _ _ (nI m) (nI 0) (nI (nM A.1) - nI 1) (a := 0) (by decide) rfl, inI_h, hx', m_in _ _ y (nI 0) (nI 2) (a := 0) (b := 2) (by decide) (by decide), inI_c, hy]
  · have hx := bool_ne hx
    refine ⟨-1, ?_, ?_⟩
    · rw [sX6_build_0]
      simp (disch := omega) only [nI_ltI, nI_eq, nI_add, nI_clamp, ib_n, pk_mul, q_and, q_or, q_dn, q_shl, q_shlm, q_p1, if_true, if_false, ↓reduceIte, Option.bind_some, bI_0, bI_1, bI_01, b_or, Nat.not_lt_zero, Nat.zero_add, Bool.false_eq_true, Bool.true_eq_false, or_false, or_true, true_or, false_or, hsel, m_hasMeaning (h := hT), hx]
    · rw [sX7_build_0]
      simp (disch := omega) only [nI_ltI, nI_eq, nI_add, nI_clamp, ib_n, pk_mul, q_and, q_or, q_dn, q_shl, q_shlm, q_p1, if_true, if_false, ↓reduceIte, Option.bind_some, bI_0, bI_1, bI_01, b_or, Nat.not_lt_zero, Nat.zero_add, Bool.false_eq_true, Bool.true_eq_false, or_false, or_true, true_or, false_or, mT.1.2.1, m_in _ _ x (nI 0) (nI (nM A.1) - nI 1) (a := 0) (by decide) rfl, inI_h, hx]
end
