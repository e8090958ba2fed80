/-! THE CLASS'S SEARCH. -/
section
def fea (T : Td_) (K t : Nat) : Bool := (List.range (nK T)).any fun k => K.testBit k && fe_ T k == some t
theorem frd_bit {T : Td_} {K t : Nat} (ht : t < nT T) : (frd T K).testBit t = fea T K t := by
  rw [frd, ms_bit, decide_eq_true ht, Bool.true_and]; rfl
theorem fea_f {T : Td_} {K t : Nat} (h : fea T K t = false) : ∀ k, k < nK T → K.testBit k = true → fe_ T k ≠ some t := fun k hk hb e => by
  have := List.any_eq_false.mp h k (List.mem_range.mpr hk)
  rw [hb, e] at this
  simp at this
theorem fea_t {T : Td_} {K t : Nat} (h : fea T K t = true) : ∃ k, k < nK T ∧ K.testBit k = true ∧ fe_ T k = some t := by
  obtain ⟨k, hk, h⟩ := List.any_eq_true.mp h
  rw [Bool.and_eq_true] at h
  exact ⟨k, List.mem_range.mp hk, h.1, by simpa using h.2⟩
/-- what is worth showing -/
def WP (T : Td_) (K W : Nat) : Prop := ∀ t, t < nT T → (W.testBit t = true → fea T K t = false) ∧ (W.testBit t = false → fea T K t = true ∨ ∃ t', t' < t ∧ W.testBit t' = true ∧ isIt T t' = isIt T t)
section
variable {T : Td_} {O : Mem_} {w K s : Nat}
theorem m_worth (d : Nat) (hK : K < 2 ^ 31) (hT : CT (O 4 w) T) (wT : WT T) : ∃ W, ex (d + 3) 62 0 [some (vr 4 w 0), some (vi (nI K))] [] O = some (nI W, O) ∧ W < 256 ∧ WP T K W := by
  have h8 := wT.1
  have hfr : frd T K < 256 := ms_lt' _ (k := 8) h8
  rw [sX5_thingsWorthShowing_0, m_fearedBy _ hK hT wT]
  simp only [Option.bind_some]
  obtain ⟨W, e, hW, hz, hp⟩ := lp_i (fun t (W : Nat) => ex (d + 3) 62 11 [some (vr 4 w 0), none, some (vi (nI (frd T K))), some (vi (nI W)), some (vi (nI t))] [] O) (fun t W => W < 2 ^ 8 ∧ (∀ j, t ≤ j → W.testBit j = false) ∧ ∀ j, j < t → (W.testBit j = true → fea T K j = false) ∧ (W.testBit j = false → fea T K j = true ∨ ∃ t', t' < j ∧ W.testBit t' = true ∧ isIt T t' = isIt T j)) (nT T) (fun t W ht ⟨hW, hz, hp⟩ => by
    have fb := frd_bit (K := K) ht
    -- whether it is new
    have inner : ∀ b : Bool, ex (d + 3) 62 39 [some (vr 4 w 0), none, some (vi (nI (frd T K))), some (vi (nI W)), some (vi (nI t)), some (vi (bI b)), some (vi (nI 0))] [] O = ex (d + 3) 62 39 [some (vr 4 w 0), none, some (vi (nI (frd T K))), some (vi (nI W)), some (vi (nI t)), some (vi (bI (b && !((List.range t).any fun l => W.testBit l && isIt T l == isIt T t)))), some (vi (nI t))] [] O := fun b => by
      obtain ⟨b', e, hb⟩ := lp_i (fun l (b' : Bool) => ex (d + 3) 62 39 [some (vr 4 w 0), none, some (vi (nI (frd T K))), some (vi (nI W)), some (vi (nI t)), some (vi (bI b')), some (vi (nI l))] [] O) (fun l b' => b' = (b && !((List.range l).any fun l => W.testBit l && isIt T l == isIt T t))) t (fun l b' hl hb => by
        have i1 := isIt_lt wT l
        have i2 := isIt_lt wT t
        refine ⟨b' && !(W.testBit l && isIt T l == isIt T t), ?_, by rw [hb, List.range_succ, List.any_append]; simp [Bool.and_assoc]⟩
        refine (sX5_thingsWorthShowing_39 ..).trans ?_
        simp (disch := omega) only [nI_ltI, nI_eq, nI_add, nI_clamp, ib_n, pk_mul, q_and, q_or, q_dn, q_shl, q_shlm, q_p1, if_true, if_false, ↓reduceIte, Option.bind_some, bI_0, bI_1, bI_01, b_or, Nat.not_lt_zero, Nat.zero_add, Bool.false_eq_true, Bool.true_eq_false, or_false, or_true, true_or, false_or, hl, m_isIn, (hT.2.1 l (by omega)).2, (hT.2.1 t ht).2]
        cases hwl : W.testBit l with
        | false => simp
        | true =>
          by_cases q : isIt T l = isIt T t
          · have q2 : (isIt T l == isIt T t) = true := by rw [q]; exact beq_self_eq_true _
            simp [q, bI]
          · have q2 : (isIt T l == isIt T t) = false := beq_false_of_ne q
            simp [q, q2]) b (by simp)
      rw [e, hb]
    have new : ex (d + 3) 62 11 [some (vr 4 w 0), none, some (vi (nI (frd T K))), some (vi (nI W)), some (vi (nI t))] [] O = ex (d + 3) 62 39 [some (vr 4 w 0), none, some (vi (nI (frd T K))), some (vi (nI W)), some (vi (nI t)), some (vi (bI (!fea T K t && !((List.range t).any fun l => W.testBit l && isIt T l == isIt T t)))), some (vi (nI t))] [] O := by
      refine (sX5_thingsWorthShowing_11 ..).trans ?_
      rw [hT.1.1, if_pos (nI_lt ht (by omega)), m_isIn _ _ (by omega) (by omega), fb]
      simp only [Option.bind_some]
      cases hq : fea T K t with
      | false => rw [if_pos bI_f]; exact inner true
      | true => rw [if_neg (by decide)]; exact inner false
    have keep : ∀ W2 : Nat, (∀ j, j < t → W2.testBit j = W.testBit j) → ∀ j, j < t → (W2.testBit j = true → fea T K j = false) ∧ (W2.testBit j = false → fea T K j = true ∨ ∃ t', t' < j ∧ W2.testBit t' = true ∧ isIt T t' = isIt T j) := fun W2 h j hj => by
      rw [h j hj]
      refine ⟨(hp j hj).1, fun q => ?_⟩
      rcases (hp j hj).2 q with a | ⟨t', a, b, c⟩
      · exact Or.inl a
      · exact Or.inr ⟨t', a, by rw [h t' (by omega)]; exact b, c⟩
    cases hn : (!fea T K t && !((List.range t).any fun l => W.testBit l && isIt T l == isIt T t)) with
    | true =>
      rw [hn] at new
      have hb : ∀ j, j ≠ t → (W ||| 2 ^ t).testBit j = W.testBit j := fun j hj => by rw [Nat.testBit_or, Nat.testBit_two_pow_of_ne (Ne.symm hj), Bool.or_false]
      have hbt : (W ||| 2 ^ t).testBit t = true := by rw [Nat.testBit_or, Nat.testBit_two_pow_self, Bool.or_true]
      refine ⟨W ||| 2 ^ t, new.trans ?_, Nat.or_lt_two_pow hW (Nat.pow_lt_pow_right (by decide) (by omega)), fun j hj => by rw [hb j (by omega)]; exact hz j (by omega), fun j hj => ?_⟩
      · refine (sX5_thingsWorthShowing_39 ..).trans ?_
        rw [if_neg (nI_nlt (Nat.le_refl _) (by omega)), if_neg (by decide), q_shl _ (by omega), q_or, nI_add]
      · by_cases e : j = t
        · subst e
          refine ⟨fun _ => ?_, fun q => by rw [hbt] at q; cases q⟩
          have := (Bool.and_eq_true _ _).mp hn
          simpa using this.1
        · exact keep _ (fun j hj => hb j (by omega)) j (by omega)
    | false =>
      rw [hn] at new
      refine ⟨W, new.trans ?_, hW, fun j hj => hz j (by omega), fun j hj => ?_⟩
      · refine (sX5_thingsWorthShowing_39 ..).trans ?_
        rw [if_neg (nI_nlt (Nat.le_refl _) (by omega)), if_pos bI_f, nI_add]
      · by_cases e : j = t
        · subst e
          refine ⟨fun q => (by rw [hz j (Nat.le_refl _)] at q; cases q), fun _ => ?_⟩
          cases hq : fea T K j with
          | true => exact Or.inl rfl
          | false =>
            right
            rw [hq] at hn
            have : ((List.range j).any fun l => W.testBit l && isIt T l == isIt T j) = true := by simpa using hn
            obtain ⟨l, hl, h⟩ := List.any_eq_true.mp this
            rw [Bool.and_eq_true] at h
            exact ⟨l, List.mem_range.mp hl, h.1, by simpa using h.2⟩
        · exact keep _ (fun _ _ => rfl) j (by omega)) 0 ⟨by decide, fun j _ => Nat.zero_testBit j, fun j hj => by omega⟩
  refine ⟨W, e.trans ((sX5_thingsWorthShowing_11 ..).trans ?_), hW, fun t ht => hp t ht⟩
  rw [hT.1.1, if_neg (nI_nlt (Nat.le_refl _) (by omega))]
theorem m_isHopeless (d : Nat) {i sn : Nat} {M : Md_} (hK : K < 2 ^ 31) (hs : s < nS T) (hT : CT (O 4 w) T) (wT : WT T) (hm : CM (O 0 i) T K sn M) (hw : WMd T M) : ∃ b, ex (d + 4) 61 0 [some (vr 4 w 0), some (vr 0 i 0), some (vi (nI K)), some (vi (nI s))] [] O = some (bI b, O) ∧ (b = true → Hop T K s M) ∧ (b = false → ∀ k, k < nK T → K.testBit k = true → (M.2 k).2.2.2 = none) := by
  have h6 := wT.2.2.2.1
  have h4 := wT.2.2.1
  have tl := tgL_lt wT s
  rw [sX5_isHopeless_0]
  have key : ∀ r k, k + r = nK T → (∀ k', k' < k → K.testBit k' = true → (M.2 k').2.2.2 = none) → ∃ b, ex (d + 4) 61 3 [some (vr 4 w 0), some (vr 0 i 0), some (vi (nI K)), some (vi (nI s)), some (vi (nI k))] [] O = some (bI b, O) ∧ (b = true → Hop T K s M) ∧ (b = false → ∀ k, k < nK T → K.testBit k = true → (M.2 k).2.2.2 = none) := by
    intro r
    induction r with
    | zero =>
      intro k hk hp
      refine ⟨false, (sX5_isHopeless_3 ..).trans ?_, fun h => (by cases h), fun _ k' hk' hb => hp k' (by omega) hb⟩
      rw [hT.1.2.2.2, if_neg (nI_nlt (by omega) (by omega))]
      rfl
    | succ r ih =>
      intro k hk hp
      have hk' : k < nK T := by omega
      cases hb : K.testBit k with
      | false =>
        obtain ⟨b, e, g1, g2⟩ := ih (k + 1) (by omega) (fun k' h1 h2 => by
          by_cases z : k' = k
          · rw [z, hb] at h2; cases h2
          · exact hp k' (by omega) h2)
        refine ⟨b, (sX5_isHopeless_3 ..).trans ?_, g1, g2⟩
        rw [hT.1.2.2.2, if_pos (nI_lt hk' (by omega)), m_isIn _ _ (by omega) hK, hb]
        simp only [Option.bind_some]
        rw [if_pos bI_f, nI_add]
        exact e
      | true =>
        have km := hm.2.2 k hk' hb
        have wk := hw.2 k
        have hf := hw.f wT s
        have e57 : ∀ y : Bool, ex (d + 4) 61 57 [some (vr 4 w 0), some (vr 0 i 0), some (vi (nI K)), some (vi (nI s)), some (vi (nI k))] [vi (bI y)] O = if (M.2 k).2.2.2 = none ∧ y = true then ex (d + 4) 61 3 [some (vr 4 w 0), some (vr 0 i 0), some (vi (nI K)), some (vi (nI s)), some (vi (nI (k + 1)))] [] O else some (nI 1, O) := fun y => by
          rw [sX5_isHopeless_57, nI_clamp (by omega), if_pos (ib_n (by omega) (by decide)), km.2.2, nI_add]
          cases hfl : (M.2 k).2.2.2 with
          | none =>
            rw [if_pos rfl]
            cases y with
            | false => rw [if_pos bI_f, if_neg (by simp)]
            | true => rw [if_neg (by decide), if_pos ⟨rfl, rfl⟩]
          | some x =>
            have := wk.2.2.2 x hfl
            rw [if_neg (oI_sn (by omega)), if_neg (by simp)]
        have st : ex (d + 4) 61 3 [some (vr 4 w 0), some (vr 0 i 0), some (vi (nI K)), some (vi (nI s)), some (vi (nI k))] [] O = ex (d + 4) 61 57 [some (vr 4 w 0), some (vr 0 i 0), some (vi (nI K)), some (vi (nI s)), some (vi (nI k))] [vi (bI (sam T M k s || !decide (chs T (M.1 s) k s (M.2 k).1 &&& tgL T s = 0)))] O := by
          have hcl : chs T (M.1 s) k s (M.2 k).1 < 4096 := ms_lt _ 12
          have hal : chs T (M.1 s) k s (M.2 k).1 &&& tgL T s ≤ chs T (M.1 s) k s (M.2 k).1 := Nat.and_le_left
          refine (sX5_isHopeless_3 ..).trans ?_
          rw [hT.1.2.2.2, if_pos (nI_lt hk' (by omega)), m_isIn _ _ (by omega) hK, hb]
          simp only [Option.bind_some]
          rw [if_neg (by decide), m_isSame d hk' hs hT wT km wk]
          simp only [Option.bind_some]
          cases hsm : sam T M k s with
          | true => rw [if_neg (by decide)]; rfl
          | false =>
            rw [if_pos bI_f, m_choices (d + 1) hk' hs hf (hm.2.1 s (by omega)) hT wT km wk]
            simp only [Option.bind_some]
            rw [m_likeTarget _ hs hT wT]
            simp only [Option.bind_some]
            rw [q_and]
            by_cases q : chs T (M.1 s) k s (M.2 k).1 &&& tgL T s = 0
            · rw [if_pos (by rw [q]), decide_eq_true q]; rfl
            · rw [if_neg (by rw [nI_eq (by omega) (by decide)]; exact q), decide_eq_false q]; rfl
        rw [st, e57]
        by_cases hc : (M.2 k).2.2.2 = none ∧ (sam T M k s || !decide (chs T (M.1 s) k s (M.2 k).1 &&& tgL T s = 0)) = true
        · rw [if_pos hc]
          exact ih (k + 1) (by omega) (fun k' h1 h2 => by
            by_cases z : k' = k
            · rw [z]; exact hc.1
            · exact hp k' (by omega) h2)
        · rw [if_neg hc]
          refine ⟨true, rfl, fun _ => ⟨k, hk', hb, ?_⟩, fun h => by cases h⟩
          cases hfl : (M.2 k).2.2.2 with
          | some x => exact Or.inl rfl
          | none =>
            right
            have : ¬ ((sam T M k s || !decide (chs T (M.1 s) k s (M.2 k).1 &&& tgL T s = 0)) = true) := fun q => hc ⟨hfl, q⟩
            simp only [Bool.or_eq_true, Bool.not_eq_true', decide_eq_false_iff_not, not_or, Classical.not_not] at this
            exact ⟨by simpa using this.1, this.2⟩
  exact key (nK T) 0 (by omega) (fun k' h _ => by omega)
end
end
