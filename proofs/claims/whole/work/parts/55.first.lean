/-! first. -/
section
def fcF (T : Td_) (s t : Nat) : Nat := csm T (see T 0 s t (isTg T s t) (md0 T)) s
def fiG (T : Td_) (s : Nat) : Nat → Option (Nat × Nat)
  | 0 => none
  | t + 1 => if (frd T (ms (nK T) fun k => decide (0 < ch_ T k))).testBit t = true then fiG T s t else match fiG T s t with
    | none => some (t, fcF T s t)
    | some p => if p.2 < fcF T s t then some (t, fcF T s t) else some p
section
variable {T : Td_} {O : Mem_} {w : Nat}
theorem fcF_le (wT : WT T) (s t : Nat) : fcF T s t ≤ 54 := csm_le wT _ _
theorem fiG_ok (wT : WT T) (s : Nat) : ∀ t, t ≤ nT T → ∀ p, fiG T s t = some p → p.1 < 8 ∧ p.2 ≤ 54
  | 0, _, _, h => by cases h
  | t + 1, ht, p, h => by
    have ih := fiG_ok wT s t (by omega)
    have h8 := wT.1
    unfold fiG at h
    split at h
    · exact ih p h
    · cases hq : fiG T s t with
      | none => rw [hq] at h; cases h; exact ⟨by show t < 8; omega, fcF_le wT s t⟩
      | some q =>
        rw [hq] at h
        dsimp only at h
        split at h
        · cases h; exact ⟨by show t < 8; omega, fcF_le wT s t⟩
        · cases h; exact ih _ hq
theorem m_chanceOfFirst (d : Nat) {s t : Nat} (hs : s < nS T) (ht : t < nT T) (hsel : sel (O 6 0 0 1) = w) (hT : CT (O 4 w) T) (wT : WT T) : ∃ O', ex (d + 5) 113 0 [some (vr 6 0 0), some (vi (nI s)), some (vi (nI t))] [] O = some (nI (fcF T s t), O') ∧ Ro 0 1 O O' := by
  have h8 := wT.1
  have h64 : 2 ^ nK T ≤ 2 ^ 6 := Nat.pow_le_pow_right (by decide) wT.2.2.2.1
  obtain ⟨O1, e1, r1, m1⟩ := m_blank (O := O) (n := w) (i := 1) (d + 2) hT wT
  have hT1 : CT (O1 4 w) T := by rw [r1 4 w (Or.inl (by decide))]; exact hT
  obtain ⟨c, O2, e2, r2, m2, -⟩ := m_see (O := O1) (n := w) (i := 1) d (K := 2 ^ nK T - 1) (s := s) (t := t) (so := isTg T s t) (by omega) hs ht hT1 wT (m1 _) md0_wf (by decide)
  have hT2 : CT (O2 4 w) T := by rw [r2 4 w (Or.inl (by decide))]; exact hT1
  have wM := see_wf (T := T) (sn := 0) (s := s) (t := t) (so := isTg T s t) (by decide) md0_wf
  have e3 := m_chanceOfSame (O := O2) (i := 1) (n := w) d (s := s) (M := see T 0 s t (isTg T s t) (md0 T)) hs hT2 wT (fun k hk => m2.2.2 k hk (by rw [Nat.testBit_two_pow_sub_one, decide_eq_true hk])) wM.2
  refine ⟨O2, ?_, r1.trans r2⟩
  rw [sX6_chanceOfFirst_0, hsel, e1]
  simp only [Option.bind_some]
  rw [r1 6 0 (Or.inl (by decide)), hsel, m_allKinds _ hT1 wT]
  simp only [Option.bind_some]
  rw [r1 6 0 (Or.inl (by decide)), hsel, m_isTarget (d + 1) hs (by omega) hT1 wT]
  simp only [Option.bind_some]
  rw [e2]
  simp only [Option.bind_some]
  rw [r2 6 0 (Or.inl (by decide)), r1 6 0 (Or.inl (by decide)), hsel, e3]
  rfl
theorem m_first (d : Nat) {s c : Nat} (hs : s < nS T) (hsel : sel (O 6 0 0 1) = w) (hT : CT (O 4 w) T) (wT : WT T) : ∃ O', ex (d + 6) 89 47 [some (vr 6 0 0), some (vi (nI s)), some (vi (nI c)), some (vi (nI (frd T (ms (nK T) fun k => decide (0 < ch_ T k))))), some (vi (oI none)), some (vi (-1)), some (vi (nI 0))] [] O = ex (d + 6) 89 47 [some (vr 6 0 0), some (vi (nI s)), some (vi (nI c)), some (vi (nI (frd T (ms (nK T) fun k => decide (0 < ch_ T k))))), some (vi (oI ((fiG T s (nT T)).map Prod.fst))), some (vi (mI ((fiG T s (nT T)).map Prod.snd))), some (vi (nI (nT T)))] [] O' ∧ Ro 0 1 O O' := by
  have h8 := wT.1
  have hfr : frd T (ms (nK T) fun k => decide (0 < ch_ T k)) < 256 := ms_lt' _ (k := 8) h8
  obtain ⟨a, e, ha, hr⟩ := lp_i (fun t (a : Mem_ × Option (Nat × Nat)) => ex (d + 6) 89 47 [some (vr 6 0 0), some (vi (nI s)), some (vi (nI c)), some (vi (nI (frd T (ms (nK T) fun k => decide (0 < ch_ T k))))), some (vi (oI (a.2.map Prod.fst))), some (vi (mI (a.2.map Prod.snd))), some (vi (nI t))] [] a.1) (fun t a => a.2 = fiG T s t ∧ Ro 0 1 O a.1) (nT T) (fun t a ht ha => by
    obtain ⟨O', o⟩ := a
    obtain ⟨ho, hr⟩ := ha
    dsimp only at ho hr
    have hsel' : sel (O' 6 0 0 1) = w := by rw [hr 6 0 (Or.inl (by decide))]; exact hsel
    have hT' : CT (O' 4 w) T := by rw [hr 4 w (Or.inl (by decide))]; exact hT
    have hok := fiG_ok wT s t (by omega)
    have hv := fcF_le wT s t
    cases hb : (frd T (ms (nK T) fun k => decide (0 < ch_ T k))).testBit t with
    | true =>
      refine ⟨(O', o), ?_, ?_, hr⟩
      · refine (sX6_first_47 (d + 5) O' (nI s) (nI c) (nI (frd T (ms (nK T) fun k => decide (0 < ch_ T k)))) (oI (o.map Prod.fst)) (mI (o.map Prod.snd)) (nI t)).trans ?_
        rw [hsel', hT'.1.1, if_pos (nI_lt ht (by omega)), m_isIn _ _ (by omega) (by omega), hb]
        simp only [Option.bind_some]
        rw [if_neg (by decide), nI_add]
      · show o = fiG T s (t + 1)
        rw [ho, fiG, if_pos hb]
    | false =>
      obtain ⟨O2, e2, r2⟩ := m_chanceOfFirst (O := O') d hs ht hsel' hT' wT
      refine ⟨(O2, fiG T s (t + 1)), ?_, rfl, hr.trans r2⟩
      refine (sX6_first_47 (d + 5) O' (nI s) (nI c) (nI (frd T (ms (nK T) fun k => decide (0 < ch_ T k)))) (oI (o.map Prod.fst)) (mI (o.map Prod.snd)) (nI t)).trans ?_
      rw [hsel', hT'.1.1, if_pos (nI_lt ht (by omega)), m_isIn _ _ (by omega) (by omega), hb]
      simp only [Option.bind_some]
      rw [if_pos bI_f, e2]
      simp only [Option.bind_some]
      rw [nI_add]
      subst ho
      have ef : fiG T s (t + 1) = match fiG T s t with
        | none => some (t, fcF T s t)
        | some p => if p.2 < fcF T s t then some (t, fcF T s t) else some p := by
        rw [fiG, if_neg (by rw [hb]; decide)]
      rw [ef]
      cases hq : fiG T s t with
      | none =>
        have h9 : mI (Option.map Prod.snd (none : Option (Nat × Nat))) < nI (fcF T s t) := mI_lt _ (by omega)
        rw [if_pos h9]
        rfl
      | some p =>
        have hp := hok p hq
        by_cases hlt : p.2 < fcF T s t
        · have h9 : mI (Option.map Prod.snd (some p)) < nI (fcF T s t) := (nI_lt hlt (by omega) : nI p.2 < _)
          rw [if_pos h9]
          dsimp only
          rw [if_pos hlt]
          rfl
        · have h9 : ¬ mI (Option.map Prod.snd (some p)) < nI (fcF T s t) := (nI_nlt (by omega) (by omega) : ¬ nI p.2 < _)
          rw [if_neg h9]
          dsimp only
          rw [if_neg hlt]) (O, none) ⟨rfl, Ro.rfl⟩
  refine ⟨a.1, Eq.trans ?_ (e.trans ?_), hr⟩
  · rfl
  · rw [ha]
def fiL (o : Option (Nat × Nat)) : Nat := match o with
  | none => 0
  | some p => p.2
theorem n_first (d : Nat) {s c : Nat} (hs : s < nS T) (hT : MT (O 7 0) T) (wT : WT T) (h0 : 0 < chc T (2 ^ nK T - 1)) : ∃ O', ex (d + 7) 192 31 [some (vr 7 0 0), some (vi (nI s)), some (vi (nI c)), some (vi (oI none)), some (vi (nI 0)), some (vi (nI 0))] [] O = ex (d + 7) 192 188 [some (vr 7 0 0), none, some (vi (nI c)), some (vi (oI ((fiG T s (nT T)).map Prod.fst))), some (vi (nI (fiL (fiG T s (nT T)))))] [] O' ∧ NX 70 70 O O' := by
  have h8 := wT.1
  have h6 := wT.2.2.2.1
  have hall := chc_le wT (2 ^ nK T - 1)
  have hfr : frd T (ms (nK T) fun k => decide (0 < ch_ T k)) < 256 := ms_lt' _ (k := 8) h8
  obtain ⟨a, e, ha, hr⟩ := lp_i (fun t (a : Mem_ × Option (Nat × Nat)) => ex (d + 7) 192 31 [some (vr 7 0 0), some (vi (nI s)), some (vi (nI c)), some (vi (oI (a.2.map Prod.fst))), some (vi (nI (fiL a.2))), some (vi (nI t))] [] a.1) (fun t a => a.2 = fiG T s t ∧ NX 70 70 O a.1) (nT T) (fun t a ht ha => by
    obtain ⟨O', o⟩ := a
    obtain ⟨ho, hr⟩ := ha
    dsimp only at ho hr
    have hT' : MT (O' 7 0) T := hT.nx hr
    have hok := fiG_ok wT s t (by omega)
    have hv := fcF_le wT s t
    have nf := n_feared (O := O') (d + 5) (c := true) hT' wT
    rw [bI_t, if_pos rfl] at nf
    cases hb : (frd T (ms (nK T) fun k => decide (0 < ch_ T k))).testBit t with
    | true =>
      refine ⟨(O', o), ?_, ?_, hr⟩
      · refine (sX7_first_31 (d + 6) O' (nI s) (nI c) (oI (o.map Prod.fst)) (nI (fiL o)) (nI t)).trans ?_
        rw [hT'.1.1, if_pos (nI_lt ht (by omega)), n_allChances _ hT' wT]
        simp only [Option.bind_some]
        rw [if_pos (nI_lt h0 (by omega)), nf]
        simp only [Option.bind_some]
        rw [q_bitv _ _ (by omega) (by omega), hb, if_neg (by decide), nI_add]
      · show o = fiG T s (t + 1)
        rw [ho, fiG, if_pos hb]
    | false =>
      obtain ⟨O2, e2, r2, m2⟩ := n_wakes (O := O') (d + 4) (b := 70) (by decide) wT
      obtain ⟨O3, e3, r3, m3⟩ := n_sees (O := O2) d (b := 70) (i := 0) (s := s) (t := t) (so := isTg T s t) (by decide) hs ht (hT'.nx r2) wT m2 md0_wf (by decide)
      have hT3 : MT (O3 7 0) T := (hT'.nx r2).nx r3
      have wM := see_wf (T := T) (sn := 0) (s := s) (t := t) (so := isTg T s t) (by decide) md0_wf
      refine ⟨(O3, fiG T s (t + 1)), ?_, rfl, (hr.trans r2).trans r3⟩
      refine (sX7_first_31 (d + 6) O' (nI s) (nI c) (oI (o.map Prod.fst)) (nI (fiL o)) (nI t)).trans ?_
      rw [hT'.1.1, if_pos (nI_lt ht (by omega)), n_allChances _ hT' wT]
      simp only [Option.bind_some]
      rw [if_pos (nI_lt h0 (by omega)), nf]
      simp only [Option.bind_some]
      rw [q_bitv _ _ (by omega) (by omega), hb, if_pos bI_f, e2]
      simp only [Option.bind_some]
      rw [n_isTrue (d + 4) hs (by omega) (hT'.nx r2) wT]
      simp only [Option.bind_some]
      rw [e3]
      simp only [Option.bind_some]
      refine (lp_n (fun k a => ex (d + 7) 192 89 [some (vr 7 0 0), some (vi (nI s)), some (vi (nI c)), some (vi (oI (o.map Prod.fst))), some (vi (nI (fiL o))), some (vi (nI t)), some (vi (nI a)), some (vi (nI k))] [] O3) (fun k a => a + (if sam T (see T 0 s t (isTg T s t) (md0 T)) k s then ch_ T k else 0)) (nK T) (fun k a hk => ?_) 0).trans ?_
      · refine (sX7_first_89 ..).trans ?_
        simp (disch := omega) only [nI_ltI, nI_eq, nI_add, nI_clamp, ib_n, pk_mul, q_and, q_or, q_dn, q_shl, q_shlm, q_p1, if_true, if_false, ↓reduceIte, Option.bind_some, bI_0, bI_1, bI_01, b_or, Nat.not_lt_zero, Nat.zero_add, Bool.false_eq_true, Bool.true_eq_false, or_false, or_true, true_or, false_or, hT3.1.2.2.2, hk, n_isSame (O := O3) (d + 4) (b := 70) (by omega) hk hs hT3 wT m3 wM, (hT3.2.2.2.2 k hk).2.2.2.2]
        cases sam T (see T 0 s t (isTg T s t) (md0 T)) k s <;> simp
      · rw [itn_sm]
        show ex (d + 7) 192 89 [some (vr 7 0 0), some (vi (nI s)), some (vi (nI c)), some (vi (oI (o.map Prod.fst))), some (vi (nI (fiL o))), some (vi (nI t)), some (vi (nI (fcF T s t))), some (vi (nI (nK T)))] [] O3 = _
        refine (sX7_first_89 ..).trans ?_
        rw [hT3.1.2.2.2, if_neg (nI_nlt (Nat.le_refl _) (by omega))]
        subst ho
        have ef : fiG T s (t + 1) = match fiG T s t with
          | none => some (t, fcF T s t)
          | some p => if p.2 < fcF T s t then some (t, fcF T s t) else some p := by
          rw [fiG, if_neg (by rw [hb]; decide)]
        have yes : ∀ o : Option (Nat × Nat), fiG T s (t + 1) = some (t, fcF T s t) → ex (d + 7) 192 149 [some (vr 7 0 0), some (vi (nI s)), some (vi (nI c)), some (vi (oI (o.map Prod.fst))), some (vi (nI (fiL o))), some (vi (nI t)), some (vi (nI (fcF T s t)))] [] O3 = ex (d + 7) 192 31 [some (vr 7 0 0), some (vi (nI s)), some (vi (nI c)), some (vi (oI ((fiG T s (t + 1)).map Prod.fst))), some (vi (nI (fiL (fiG T s (t + 1))))), some (vi (nI (t + 1)))] [] O3 := fun o h => by
          rw [h, sX7_first_149, if_neg (by decide), sX7_first_167, if_neg (by decide), nI_add]
          rfl
        cases hq : fiG T s t with
        | none =>
          rw [hq] at ef
          exact (if_pos rfl).trans (yes none ef)
        | some p =>
          have hp := hok p hq
          rw [hq] at ef
          dsimp only at ef
          have hne : ¬ oI (Option.map Prod.fst (some p)) = oI none := oI_sn (by omega)
          rw [if_neg hne]
          by_cases hlt : p.2 < fcF T s t
          · rw [if_pos hlt] at ef
            have h9 : nI (fiL (some p)) < nI (fcF T s t) := (nI_lt hlt (by omega) : nI p.2 < _)
            rw [if_pos h9]
            exact yes (some p) ef
          · rw [if_neg hlt] at ef
            have h9 : ¬ nI (fiL (some p)) < nI (fcF T s t) := (nI_nlt (by omega) (by omega) : ¬ nI p.2 < _)
            rw [if_neg h9, if_pos rfl, sX7_first_167, if_pos rfl, nI_add, ef]) (O, none) ⟨rfl, NX.rfl⟩
  refine ⟨a.1, Eq.trans ?_ (e.trans ?_), hr⟩
  · rfl
  · refine (sX7_first_31 ..).trans ?_
    rw [(hT.nx hr).1.1, if_neg (nI_nlt (Nat.le_refl _) (by omega)), ha]
end
theorem q_first (x y : Int32) : Cal 89 192 [some (vi x), some (vi y)] := Cal.of fun O A hw hc hm => by
  have hc' := hc
  have hm' := hm
  obtain ⟨w, cw, c9, hT, hS, hI, hB, hM, hP, hF, hSh⟩ := hc
  have hsel := cw.sel
  obtain ⟨mT, mSc, mIm, mN, mP, mF, mSh, mt⟩ := hm
  have hw' := hw
  obtain ⟨wT, wS, wI, wP, wF, wSh, wt⟩ := hw
  have h8 := wT.1
  have h12 := wT.2.1
  have h4 := wT.2.2.1
  have h6 := wT.2.2.2.1
  have wMd : WMd A.1 (mds A.1 A.2.1.2.1 A.2.1.1) := mds_wf _ (by have := wS.1; omega)
  have kmC : ∀ k, k < nK A.1 → KM (O 0 0) k ((mds A.1 A.2.1.2.1 A.2.1.1).2 k) := fun k hk => hM.2.2 k hk (by rw [Nat.testBit_two_pow_sub_one, decide_eq_true hk])
  have kmN : ∀ k, k < nK A.1 → KN (O 7 0) (10 * k) ((mds A.1 A.2.1.2.1 A.2.1.1).2 k) := fun k hk => by have := mN.1 k hk; rwa [Nat.zero_add] at this
  have h64 : 2 ^ nK A.1 ≤ 2 ^ 6 := Nat.pow_le_pow_right (by decide) h6
  have hall := chc_le wT (2 ^ nK A.1 - 1)
  have hms := ms_lt' (fun k => decide (0 < ch_ A.1 k)) (n := nK A.1) (k := 6) h6
  by_cases hx : hsI x (nS A.1) = true
  · have hx' := hx
    obtain ⟨s, hs, rfl⟩ := hsI_of (by omega) hx
    by_cases hy : hsI y 3 = true
    · have hy' := hy
      obtain ⟨c, hcc, rfl⟩ := hsI_of (by decide) hy
      obtain ⟨O1, e1, r1⟩ := m_first (O := O) 34 (c := c) hs hsel hT wT
      have hok := fiG_ok wT s (nT A.1) (Nat.le_refl _)
      have rc : ∀ c, c ≠ 0 → O1 c = O c := fun c z => funext fun n => r1 c n (Or.inl z)
      have hT1 : CT (O1 4 w) A.1 := by rw [rc 4 (by decide)]; exact hT
      have hm1 : MI (O1 7 0) A := by rw [rc 7 (by decide)]; exact hm'
      -- the class's start
      have cst : ex 40 89 0 [some (vr 6 0 0), some (vi (nI s)), some (vi (nI c))] [] O = ex (34 + 6) 89 47 [some (vr 6 0 0), some (vi (nI s)), some (vi (nI c)), some (vi (nI (frd A.1 (ms (nK A.1) fun k => decide (0 < ch_ A.1 k))))), some (vi (oI ((fiG A.1 s (nT A.1)).map Prod.fst))), some (vi (mI ((fiG A.1 s (nT A.1)).map Prod.snd))), some (vi (nI (nT A.1)))] [] O1 := by
        refine Eq.trans ?_ e1
        refine (sX6_first_0 39 O (nI s) (nI c)).trans ?_
        rw [hsel, m_hasSound 38 _ hT, hx']
        simp only [Option.bind_some]
        rw [if_neg (by decide), hsI_ye (by decide) (by omega), hsel, m_kindsWithChance 38 hT wT]
        simp only [Option.bind_some]
        rw [m_fearedBy 37 (by omega) hT wT]
        rfl
      have mst : ∀ O, MI (O 7 0) A → ex 40 192 0 [some (vr 7 0 0), some (vi (nI s)), some (vi (nI c))] [] O = ex (33 + 7) 192 31 [some (vr 7 0 0), some (vi (nI s)), some (vi (nI c)), some (vi (oI none)), some (vi (nI 0)), some (vi (nI 0))] [] O := fun O hm => by
        refine (sX7_first_0 39 O (nI s) (nI c)).trans ?_
        rw [n_isSound 37 _ hm.1 wT, hx']
        simp only [Option.bind_some]
        rw [if_neg (by decide), m_in _ _ (nI c) (nI 0) (nI 2) (a := 0) (b := 2) (by decide) (by decide), inI_c _ (by decide), hy']
        simp only [Option.bind_some]
        rw [if_neg (by decide)]
      have cend : ex 40 89 0 [some (vr 6 0 0), some (vi (nI s)), some (vi (nI c))] [] O = if oI ((fiG A.1 s (nT A.1)).map Prod.fst) = oI none then some (oI none, O1) else if chc A.1 (2 ^ nK A.1 - 1) = 0 then some (oI none, O1) else if c = 0 then some (oI ((fiG A.1 s (nT A.1)).map Prod.fst), O1) else some (nI (if c = 2 then chc A.1 (2 ^ nK A.1 - 1) / (chc A.1 (2 ^ nK A.1 - 1)).gcd (fiL (fiG A.1 s (nT A.1))) else fiL (fiG A.1 s (nT A.1)) / (chc A.1 (2 ^ nK A.1 - 1)).gcd (fiL (fiG A.1 s (nT A.1)))), O1) := by
        refine cst.trans ((sX6_first_47 ..).trans ?_)
        rw [rc 6 (by decide), hsel, hT1.1.1, if_neg (nI_nlt (Nat.le_refl _) (by omega)), m_allKinds _ hT1 wT]
        simp only [Option.bind_some]
        rw [m_chances _ (by omega) hT1 wT]
        simp only [Option.bind_some]
        cases hq : fiG A.1 s (nT A.1) with
        | none => exact (if_pos rfl).trans (if_pos rfl).symm
        | some p =>
          have hp := hok p hq
          have hne : ¬ oI (Option.map Prod.fst (some p)) = oI none := oI_sn (by omega)
          rw [if_neg hne, if_neg hne]
          by_cases h0 : chc A.1 (2 ^ nK A.1 - 1) = 0
          · rw [if_pos (by rw [h0]), if_pos h0]
          · rw [if_neg (by rw [nI_eq (by omega) (by decide)]; exact h0), if_neg h0]
            have l1 := m_lowest 38 O1 (a := p.2) (b := chc A.1 (2 ^ nK A.1 - 1)) (lo := true) hp.2 (by omega) hall
            have l0 := m_lowest 38 O1 (a := p.2) (b := chc A.1 (2 ^ nK A.1 - 1)) (lo := false) hp.2 (by omega) hall
            rw [bI_t] at l1
            rw [bI_f] at l0
            rcases (by omega : c = 0 ∨ c = 1 ∨ c = 2) with rfl | rfl | rfl
            · rfl
            · rw [if_neg (by decide), if_neg (by decide), if_neg (by decide)]
              simp only [Option.map_some, mI]
              rw [l0]
              rfl
            · rw [if_neg (by decide), if_pos rfl, if_neg (by decide)]
              simp only [Option.map_some, mI]
              rw [l1]
              rfl
      have cci : CI O1 A := hc'.of (r1 0 0 (Or.inr (by decide))) (rc 1 (by decide)) (rc 2 (by decide)) (rc 3 (by decide)) (rc 4 (by decide)) (rc 6 (by decide))
      by_cases h0 : chc A.1 (2 ^ nK A.1 - 1) = 0
      · refine ⟨oI none, A, O1, hw', ?_, cci, rc 7 (by decide), rc 8 (by decide), O1, ?_, hm1, fun _ _ => rfl⟩
        · rw [show (some (vr 6 0 0) :: [some (vi (nI s)), some (vi (nI c))] : Lv_) = [some (vr 6 0 0), some (vi (nI s)), some (vi (nI c))] from rfl, cend, if_pos h0, ite_self]
        · refine (mst O1 hm1).trans ((sX7_first_31 ..).trans ?_)
          have e188 : ex (33 + 7) 192 188 [some (vr 7 0 0), none, some (vi (nI c)), some (vi (oI none)), some (vi (nI 0))] [] O1 = some (oI none, O1) := by rw [sX7_first_188, if_pos rfl]
          rw [n_allChances _ hm1.1 wT]
          simp only [Option.bind_some]
          have hz : ¬ nI 0 < nI (chc A.1 (2 ^ nK A.1 - 1)) := by rw [h0]; decide
          rw [if_neg hz, ite_self, e188]
      · obtain ⟨O2, e2, r2⟩ := n_first (O := O1) 33 (c := c) hs hm1.1 wT (by omega)
        have hm2 : MI (O2 7 0) A := MI.of (O := O1) hw' hm1 fun p q z _ _ _ => r2.2 p q (fun y => z ⟨y.1, y.2.1⟩)
        have mend : ex 40 192 0 [some (vr 7 0 0), some (vi (nI s)), some (vi (nI c))] [] O1 = if oI ((fiG A.1 s (nT A.1)).map Prod.fst) = oI none then some (oI none, O2) else if c = 0 then some (oI ((fiG A.1 s (nT A.1)).map Prod.fst), O2) else some (nI (if c = 2 then chc A.1 (2 ^ nK A.1 - 1) / (chc A.1 (2 ^ nK A.1 - 1)).gcd (fiL (fiG A.1 s (nT A.1))) else fiL (fiG A.1 s (nT A.1)) / (chc A.1 (2 ^ nK A.1 - 1)).gcd (fiL (fiG A.1 s (nT A.1)))), O2) := by
          refine (mst O1 hm1).trans (e2.trans ((sX7_first_188 ..).trans ?_))
          cases hq : fiG A.1 s (nT A.1) with
          | none => exact (if_pos rfl).trans (if_pos rfl).symm
          | some p =>
            have hp := hok p hq
            have hne : ¬ oI (Option.map Prod.fst (some p)) = oI none := oI_sn (by omega)
            rw [if_neg hne, if_neg hne]
            by_cases c0 : c = 0
            · rw [if_pos (by rw [c0]), if_pos c0]
            · rw [if_neg (by rw [nI_eq (by omega) (by decide)]; exact c0), if_neg c0, n_allChances _ hm2.1 wT]
              simp only [Option.bind_some]
              rw [pk_sub (a := c) (b := 1) (by omega), n_lowest _ _ (a := fiL (some p)) (b := chc A.1 (2 ^ nK A.1 - 1)) (w := c - 1) hp.2 (by omega) hall (by omega)]
              simp only [Option.bind_some]
              rcases (by omega : c = 1 ∨ c = 2) with rfl | rfl
              · rfl
              · rfl
        have hcl : ∀ c, c ≠ 7 → O2 c = O1 c := fun c z => funext fun n => r2.1 c n (Or.inl z)
        rw [if_neg h0] at cend
        by_cases hn : oI ((fiG A.1 s (nT A.1)).map Prod.fst) = oI none
        · rw [if_pos hn] at cend mend
          exact ⟨_, A, O1, hw', cend, cci, rc 7 (by decide), rc 8 (by decide), O2, mend, hm2, hcl⟩
        · rw [if_neg hn] at cend mend
          by_cases c0 : c = 0
          · rw [if_pos c0] at cend mend
            exact ⟨_, A, O1, hw', cend, cci, rc 7 (by decide), rc 8 (by decide), O2, mend, hm2, hcl⟩
          · rw [if_neg c0] at cend mend
            exact ⟨_, A, O1, hw', cend, cci, rc 7 (by decide), rc 8 (by decide), O2, mend, hm2, hcl⟩
    · have hy := bool_ne hy
      refine CalAt.q hw' hc' hm' (-1) ?_ ?_
      · rw [sX6_first_0]
        simp (disch := omega) only [nI_ltI, nI_eq, nI_add, nI_clamp, ib_n, pk_mul, q_and, q_or, q_dn, q_shl, q_shlm, q_p1, if_true, if_false, ↓reduceIte, Option.bind_some, bI_0, bI_1, bI_01, b_or, Nat.not_lt_zero, Nat.zero_add, Bool.false_eq_true, Bool.true_eq_false, or_false, or_true, true_or, false_or, hsel, m_hasSound (h := hT), hx']
        exact hsI_no (by decide) hy _ _
      · rw [sX7_first_0]
        simp (disch := omega) only [nI_ltI, nI_eq, nI_add, nI_clamp, ib_n, pk_mul, q_and, q_or, q_dn, q_shl, q_shlm, q_p1, if_true, if_false, ↓reduceIte, Option.bind_some, bI_0, bI_1, bI_01, b_or, Nat.not_lt_zero, Nat.zero_add, Bool.false_eq_true, Bool.true_eq_false, or_false, or_true, true_or, false_or, n_isSound (h := mT) (hT := wT), hx', m_in _ _ y (nI 0) (nI 2) (a := 0) (b := 2) (by decide) (by decide), inI_c, hy]
  · have hx := bool_ne hx
    refine CalAt.q hw' hc' hm' (-1) ?_ ?_
    · rw [sX6_first_0]
      simp (disch := omega) only [nI_ltI, nI_eq, nI_add, nI_clamp, ib_n, pk_mul, q_and, q_or, q_dn, q_shl, q_shlm, q_p1, if_true, if_false, ↓reduceIte, Option.bind_some, bI_0, bI_1, bI_01, b_or, Nat.not_lt_zero, Nat.zero_add, Bool.false_eq_true, Bool.true_eq_false, or_false, or_true, true_or, false_or, hsel, m_hasSound (h := hT), hx]
    · rw [sX7_first_0]
      simp (disch := omega) only [nI_ltI, nI_eq, nI_add, nI_clamp, ib_n, pk_mul, q_and, q_or, q_dn, q_shl, q_shlm, q_p1, if_true, if_false, ↓reduceIte, Option.bind_some, bI_0, bI_1, bI_01, b_or, Nat.not_lt_zero, Nat.zero_add, Bool.false_eq_true, Bool.true_eq_false, or_false, or_true, true_or, false_or, n_isSound (h := mT) (hT := wT), hx]
end
