/-! ask, first. -/
section
def agF (T : Td_) (M : Md_) (l s t : Nat) : Nat := max (max (max 0 (chc T (l &&& who T M s t (some 0)))) (chc T (l &&& who T M s t (some 1)))) (chc T (l &&& who T M s t none))
abbrev Ag_ : Type := Option (Nat × Nat × Nat)
def agI (o : Ag_) (s t v : Nat) : Ag_ := match o with
  | none => some (s, t, v)
  | some p => if v < p.2.2 then some (s, t, v) else some p
def agR (T : Td_) (M : Md_) (l s : Nat) (o : Ag_) : Nat → Ag_
  | 0 => o
  | t + 1 => agI (agR T M l s o t) s t (agF T M l s t)
def agO (T : Td_) (M : Md_) (l : Nat) : Nat → Ag_
  | 0 => none
  | s + 1 => agR T M l s (agO T M l s) (nT T)
def agOK (o : Ag_) : Prop := ∀ p, o = some p → p.1 < 4 ∧ p.2.1 < 8 ∧ p.2.2 ≤ 54
section
variable {T : Td_} {O : Mem_} {w : Nat} {M : Md_}
theorem agF_le (wT : WT T) (l s t : Nat) : agF T M l s t ≤ 54 := by
  have a := chc_le wT (l &&& who T M s t (some 0))
  have b := chc_le wT (l &&& who T M s t (some 1))
  have c := chc_le wT (l &&& who T M s t none)
  unfold agF
  omega
theorem agI_ok {o : Ag_} {s t v : Nat} (h : agOK o) (hs : s < 4) (ht : t < 8) (hv : v ≤ 54) : agOK (agI o s t v) := by
  intro p hp
  unfold agI at hp
  cases o with
  | none => cases hp; exact ⟨hs, ht, hv⟩
  | some q =>
    dsimp only at hp
    split at hp
    · cases hp; exact ⟨hs, ht, hv⟩
    · cases hp; exact h _ rfl
theorem agR_ok (wT : WT T) {l s : Nat} {o : Ag_} (h : agOK o) (hs : s < 4) : ∀ t, t ≤ nT T → agOK (agR T M l s o t)
  | 0, _ => h
  | t + 1, ht => agI_ok (agR_ok wT h hs t (by omega)) hs (by have := wT.1; omega) (agF_le wT ..)
theorem agO_ok (wT : WT T) {l : Nat} : ∀ s, s ≤ nS T → agOK (agO T M l s)
  | 0, _ => fun p h => by cases h
  | s + 1, hs => agR_ok wT (agO_ok wT s (by omega)) (by have := wT.2.2.1; omega) _ (Nat.le_refl _)
theorem max_if (a b : Nat) (ha : a < 2 ^ 31) (hb : b < 2 ^ 31) : (if nI a < nI b then nI b else nI a) = nI (max a b) := by
  by_cases h : a < b
  · rw [if_pos (nI_lt h hb), Nat.max_eq_right (by omega)]
  · rw [if_neg (nI_nlt (by omega) ha), Nat.max_eq_left (by omega)]
theorem m_greatestLeft (d : Nat) {l s t : Nat} (hl : l < 2 ^ nK T) (hs : s < nS T) (ht : t < nT T) (hsel : sel (O 6 0 0 1) = w) (hT : CT (O 4 w) T) (wT : WT T) (hl4 : O 1 0 0 4 = nI l) (hm : ∀ k, k < nK T → KM (O 0 0) k (M.2 k)) (hw : ∀ k, WMi T (M.2 k)) : ex (d + 4) 114 0 [some (vr 6 0 0), some (vi (nI s)), some (vi (nI t))] [] O = some (nI (agF T M l s t), O) := by
  have h8 := wT.1
  have h64 : 2 ^ nK T ≤ 2 ^ 6 := Nat.pow_le_pow_right (by decide) wT.2.2.2.1
  have a := chc_le wT (l &&& who T M s t (some 0))
  have b := chc_le wT (l &&& who T M s t (some 1))
  have c := chc_le wT (l &&& who T M s t none)
  have kA : ∀ a : Option Nat, (∀ j, a = some j → j < 2) → ex (d + 3) 12 0 [some (vr 0 0 0), some (vr 4 w 0), some (vi (nI s)), some (vi (nI t)), some (vi (oI a))] [] O = some (nI (who T M s t a), O) := fun a ha => m_kindsThatAnswer d ha hs (by omega) hT wT hm hw
  have k1 : ex (d + 3) 12 0 [some (vr 0 0 0), some (vr 4 w 0), some (vi (nI s)), some (vi (nI t)), some (vi (nI 1))] [] O = some (nI (who T M s t (some 1)), O) := kA (some 1) (fun j e => by cases e; decide)
  have k0 : ex (d + 3) 12 0 [some (vr 0 0 0), some (vr 4 w 0), some (vi (nI s)), some (vi (nI t)), some (vi (nI 0))] [] O = some (nI (who T M s t (some 0)), O) := kA (some 0) (fun j e => by cases e; decide)
  have kn := kA none (fun j e => by cases e)
  have hc : ∀ x, ex (d + 3) 58 0 [some (vr 4 w 0), some (vi (nI (l &&& x)))] [] O = some (nI (chc T (l &&& x)), O) := fun x => m_chances (d + 1) (Nat.lt_of_le_of_lt Nat.and_le_left (by omega)) hT wT
  rw [sX6_greatestLeft_0, hsel, k1]
  simp only [Option.bind_some]
  rw [hl4, q_and, hc]
  simp only [Option.bind_some]
  rw [hsel, k0]
  simp only [Option.bind_some]
  rw [hl4, q_and, hc]
  simp only [Option.bind_some]
  rw [hsel, kn]
  simp only [Option.bind_some]
  rw [hl4, q_and, hc]
  simp only [Option.bind_some]
  rw [max_if _ _ (by omega) (by omega), max_if _ _ (by omega) (by omega)]
  unfold agF
  congr 3
  omega
theorem m_ask (d : Nat) {l c : Nat} (hl : l < 2 ^ nK T) (hc : c < 3) (hsel : sel (O 6 0 0 1) = w) (hT : CT (O 4 w) T) (wT : WT T) (hl4 : O 1 0 0 4 = nI l) (hm : ∀ k, k < nK T → KM (O 0 0) k (M.2 k)) (hw : ∀ k, WMi T (M.2 k)) : ex (d + 5) 94 37 [some (vr 6 0 0), some (vi (nI c)), some (vi (oI none)), some (vi (oI none)), some (vi (oI none)), some (vi (nI 0))] [] O = some (oI (if c = 0 then (agO T M l (nS T)).map (fun p => p.1) else if c = 1 then (agO T M l (nS T)).map (fun p => p.2.1) else (agO T M l (nS T)).map (fun p => p.2.2)), O) := by
  have h8 := wT.1
  have h4 := wT.2.2.1
  obtain ⟨o, e, ho⟩ := lp_i (fun s (o : Ag_) => ex (d + 5) 94 37 [some (vr 6 0 0), some (vi (nI c)), some (vi (oI (o.map (fun p => p.1)))), some (vi (oI (o.map (fun p => p.2.1)))), some (vi (oI (o.map (fun p => p.2.2)))), some (vi (nI s))] [] O) (fun s o => o = agO T M l s) (nS T) (fun s o hs ho => by
    refine ⟨agO T M l (s + 1), ?_, rfl⟩
    refine (sX6_ask_37 ..).trans ?_
    rw [hsel, hT.1.2.2.1, if_pos (nI_lt hs (by omega))]
    have hok := agO_ok (M := M) (l := l) wT s (by omega)
    obtain ⟨o2, e2, ho2⟩ := lp_i (fun t (o : Ag_) => ex (d + 5) 94 52 [some (vr 6 0 0), some (vi (nI c)), some (vi (oI (o.map (fun p => p.1)))), some (vi (oI (o.map (fun p => p.2.1)))), some (vi (oI (o.map (fun p => p.2.2)))), some (vi (nI s)), some (vi (nI t))] [] O) (fun t o => o = agR T M l s (agO T M l s) t) (nT T) (fun t o ht ho => by
      have hrk := agR_ok (M := M) (l := l) (s := s) wT hok (by omega) t (by omega)
      have hv := agF_le (M := M) wT l s t
      refine ⟨agR T M l s (agO T M l s) (t + 1), ?_, rfl⟩
      refine (sX6_ask_52 ..).trans ?_
      rw [hsel, hT.1.1, if_pos (nI_lt ht (by omega)), m_greatestLeft d hl hs ht hsel hT wT hl4 hm hw]
      simp only [Option.bind_some]
      rw [nI_add]
      subst ho
      show _ = ex (d + 5) 94 52 [some (vr 6 0 0), some (vi (nI c)), some (vi (oI ((agI (agR T M l s (agO T M l s) t) s t (agF T M l s t)).map (fun p => p.1)))), some (vi (oI ((agI (agR T M l s (agO T M l s) t) s t (agF T M l s t)).map (fun p => p.2.1)))), some (vi (oI ((agI (agR T M l s (agO T M l s) t) s t (agF T M l s t)).map (fun p => p.2.2)))), some (vi (nI s)), some (vi (nI (t + 1)))] [] O
      cases hq : agR T M l s (agO T M l s) t with
      | none => rfl
      | some p =>
        have hp := hrk p hq
        simp only [Option.map_some]
        rw [if_neg (oI_sn (by omega))]
        by_cases hlt : agF T M l s t < p.2.2
        · have e9 : nI (agF T M l s t) < oI (some p.2.2) := nI_lt hlt (by omega)
          rw [if_pos e9]
          simp only [agI, if_pos hlt, Option.map_some]
          rfl
        · have e9 : ¬ nI (agF T M l s t) < oI (some p.2.2) := nI_nlt (by omega) (by omega)
          rw [if_neg e9]
          simp only [agI, if_neg hlt, Option.map_some]) o ho
    refine e2.trans ((sX6_ask_52 ..).trans ?_)
    rw [hsel, hT.1.1, if_neg (nI_nlt (Nat.le_refl _) (by omega)), ho2, nI_add]
    rfl) none rfl
  refine Eq.trans ?_ (e.trans ((sX6_ask_37 ..).trans ?_))
  · rfl
  · rw [hsel, hT.1.2.2.1, if_neg (nI_nlt (Nat.le_refl _) (by omega)), ho]
    simp (disch := omega) only [nI_ltI, nI_eq, nI_add, nI_clamp, ib_n, pk_mul, q_and, q_or, q_dn, q_shl, q_shlm, q_p1, if_true, if_false, ↓reduceIte, Option.bind_some, bI_0, bI_1, bI_01, b_or, Nat.not_lt_zero, Nat.zero_add, Bool.false_eq_true, Bool.true_eq_false, or_false, or_true, true_or, false_or]
    by_cases c0 : c = 0
    · rw [if_pos c0, if_pos c0]
    · by_cases c1 : c = 1
      · rw [if_neg c0, if_pos c1, if_neg c0, if_pos c1]
      · rw [if_neg c0, if_neg c1, if_neg c0, if_neg c1]
def agB (p : Nat × Nat × Nat) : Nat := 8 * p.1 + p.2.1
def agL (o : Ag_) : Nat := match o with
  | none => 0
  | some p => p.2.2
theorem n_ask (d : Nat) {l c : Nat} (hl : l < 2 ^ nK T) (hl0 : ¬ l = 0) (hc : c < 3) (hT : MT (O 7 0) T) (wT : WT T) (hl4 : O 7 0 0 33 = nI l) (hm : NM (O 7 0) 0 T M) (hw : WMd T M) : ex (d + 3) 199 22 [some (vr 7 0 0), some (vi (nI c)), some (vi (oI none)), some (vi (nI 0)), some (vi (nI 0))] [] O = some (oI (if c = 0 then (agO T M l (nS T)).map (fun p => p.1) else if c = 1 then (agO T M l (nS T)).map (fun p => p.2.1) else (agO T M l (nS T)).map (fun p => p.2.2)), O) := by
  have h8 := wT.1
  have h4 := wT.2.2.1
  have h64 : 2 ^ nK T ≤ 2 ^ 6 := Nat.pow_le_pow_right (by decide) wT.2.2.2.1
  obtain ⟨o, e, ho⟩ := lp_i (fun s (o : Ag_) => ex (d + 3) 199 22 [some (vr 7 0 0), some (vi (nI c)), some (vi (oI (o.map agB))), some (vi (nI (agL o))), some (vi (nI s))] [] O) (fun s o => o = agO T M l s) (nS T) (fun s o hs ho => by
    refine ⟨agO T M l (s + 1), ?_, rfl⟩
    refine (sX7_ask_22 ..).trans ?_
    rw [hT.1.2.2.1, if_pos (nI_lt hs (by omega)), hl4, if_neg (by rw [nI_eq (by omega) (by decide)]; exact hl0)]
    have hok := agO_ok (M := M) (l := l) wT s (by omega)
    obtain ⟨o2, e2, ho2⟩ := lp_i (fun t (o : Ag_) => ex (d + 3) 199 41 [some (vr 7 0 0), some (vi (nI c)), some (vi (oI (o.map agB))), some (vi (nI (agL o))), some (vi (nI s)), some (vi (nI t))] [] O) (fun t o => o = agR T M l s (agO T M l s) t) (nT T) (fun t o ht ho => by
      have hrk := agR_ok (M := M) (l := l) (s := s) wT hok (by omega) t (by omega)
      have hv := agF_le (M := M) wT l s t
      have a0 := chc_le wT (l &&& who T M s t (some 0))
      have b0 := chc_le wT (l &&& who T M s t (some 1))
      have c0 := chc_le wT (l &&& who T M s t none)
      refine ⟨agR T M l s (agO T M l s) (t + 1), ?_, rfl⟩
      refine (sX7_ask_41 ..).trans ?_
      rw [hT.1.1, if_pos (nI_lt ht (by omega))]
      have e85 : ∀ (a : Option Nat) (q j : Nat), (∀ j, a = some j → j < 2) → q ≤ 54 → ex (d + 3) 199 85 [some (vr 7 0 0), some (vi (nI c)), some (vi (oI (o.map agB))), some (vi (nI (agL o))), some (vi (nI s)), some (vi (nI t)), some (vi (nI q)), some (vi (nI j))] [vi (oI a), vi (nI t), vi (nI s), vr 7 0 0, vi (nI l), vr 7 0 0] O = ex (d + 3) 199 56 [some (vr 7 0 0), some (vi (nI c)), some (vi (oI (o.map agB))), some (vi (nI (agL o))), some (vi (nI s)), some (vi (nI t)), some (vi (nI (max q (chc T (l &&& who T M s t a))))), some (vi (nI (j + 1)))] [] O := fun a q j ha hq => by
        have hcc := chc_le wT (l &&& who T M s t a)
        rw [sX7_ask_85, n_whoSay d ha hs (by omega) hT wT hm hw]
        simp only [Option.bind_some]
        rw [q_and, n_chanceOf _ (Nat.lt_of_le_of_lt Nat.and_le_left (by omega)) hT wT]
        simp only [Option.bind_some]
        rw [nI_add]
        by_cases hlt : q < chc T (l &&& who T M s t a)
        · rw [if_pos (nI_lt hlt (by omega)), Nat.max_eq_right (by omega)]
        · rw [if_neg (nI_nlt (by omega) (by omega)), Nat.max_eq_left (by omega)]
      have s0 := e85 (some 0) 0 0 (fun j e => by cases e; decide) (by omega)
      have s1 := e85 (some 1) (max 0 (chc T (l &&& who T M s t (some 0)))) 1 (fun j e => by cases e; decide) (by omega)
      have s2 := e85 none (max (max 0 (chc T (l &&& who T M s t (some 0)))) (chc T (l &&& who T M s t (some 1)))) 2 (fun j e => by cases e) (by omega)
      rw [sX7_ask_56, if_pos (by decide), if_neg (by decide), hl4]
      refine s0.trans ?_
      rw [sX7_ask_56, if_pos (by decide), if_neg (by decide), hl4]
      refine s1.trans ?_
      rw [sX7_ask_56, if_pos (by decide), if_pos (by decide), hl4]
      refine s2.trans ?_
      rw [sX7_ask_56, if_neg (by decide), show (max (max (max 0 (chc T (l &&& who T M s t (some 0)))) (chc T (l &&& who T M s t (some 1)))) (chc T (l &&& who T M s t none))) = agF T M l s t from rfl]
      subst ho
      show _ = ex (d + 3) 199 41 [some (vr 7 0 0), some (vi (nI c)), some (vi (oI ((agI (agR T M l s (agO T M l s) t) s t (agF T M l s t)).map agB))), some (vi (nI (agL (agI (agR T M l s (agO T M l s) t) s t (agF T M l s t))))), some (vi (nI s)), some (vi (nI (t + 1)))] [] O
      have yes : ∀ o : Ag_, agI o s t (agF T M l s t) = some (s, t, agF T M l s t) → ex (d + 3) 199 133 [some (vr 7 0 0), some (vi (nI c)), some (vi (oI (o.map agB))), some (vi (nI (agL o))), some (vi (nI s)), some (vi (nI t)), some (vi (nI (agF T M l s t)))] [vi (nI 1)] O = ex (d + 3) 199 41 [some (vr 7 0 0), some (vi (nI c)), some (vi (oI ((agI o s t (agF T M l s t)).map agB))), some (vi (nI (agL (agI o s t (agF T M l s t))))), some (vi (nI s)), some (vi (nI (t + 1)))] [] O := fun o h => by
        rw [h, sX7_ask_133, if_neg (by decide), sX7_ask_152, if_neg (by decide), nI_add, pk_mul, nI_add]
        rfl
      cases hq : agR T M l s (agO T M l s) t with
      | none => exact (if_pos rfl).trans (yes none rfl)
      | some p =>
        have hp := hrk p hq
        simp only [Option.map_some]
        rw [if_neg (oI_sn (by unfold agB; omega))]
        by_cases hlt : agF T M l s t < p.2.2
        · have h9 : nI (agF T M l s t) < nI (agL (some p)) := (nI_lt hlt (by omega) : nI (agF T M l s t) < nI p.2.2)
          rw [if_pos h9]
          exact yes (some p) (by simp only [agI, if_pos hlt])
        · have h9 : ¬ nI (agF T M l s t) < nI (agL (some p)) := (nI_nlt (Nat.le_of_not_lt hlt) (by omega) : ¬ nI (agF T M l s t) < nI p.2.2)
          rw [if_neg h9, sX7_ask_133, if_pos rfl, sX7_ask_152, if_pos rfl, nI_add]
          simp only [agI, if_neg hlt]
          rfl) o ho
    refine e2.trans ((sX7_ask_41 ..).trans ?_)
    rw [hT.1.1, if_neg (nI_nlt (Nat.le_refl _) (by omega)), ho2, nI_add]
    rfl) none rfl
  refine Eq.trans ?_ (e.trans ((sX7_ask_22 ..).trans ?_))
  · rfl
  · rw [hT.1.2.2.1, if_neg (nI_nlt (Nat.le_refl _) (by omega)), ho, sX7_ask_177]
    have hok := agO_ok (M := M) (l := l) wT (nS T) (Nat.le_refl _)
    cases hq : agO T M l (nS T) with
    | none => exact (if_pos rfl).trans (by simp)
    | some p =>
      have hp := hok p hq
      simp only [Option.map_some]
      rw [if_neg (oI_sn (by unfold agB; omega))]
      simp only [oI]
      have e8 : ¬ (nI 8 = nI 0) := by decide
      have hB : agB p < 2 ^ 31 := by unfold agB; omega
      rw [if_neg e8, if_neg e8, pk_rem (a := agB p) (d := 8) hB (by decide) (by decide), pk_div (a := agB p) (d := 8) hB (by decide) (by decide)]
      have d1 : agB p / 8 = p.1 := by unfold agB; omega
      have d2 : agB p % 8 = p.2.1 := by unfold agB; omega
      rw [d1, d2]
      simp (disch := omega) only [nI_ltI, nI_eq, nI_add, nI_clamp, ib_n, pk_mul, q_and, q_or, q_dn, q_shl, q_shlm, q_p1, if_true, if_false, ↓reduceIte, Option.bind_some, bI_0, bI_1, bI_01, b_or, Nat.not_lt_zero, Nat.zero_add, Bool.false_eq_true, Bool.true_eq_false, or_false, or_true, true_or, false_or]
      by_cases c0 : c = 0
      · rw [if_pos c0, if_pos c0]
      · by_cases c1 : c = 1
        · rw [if_neg c0, if_pos c1, if_neg c0, if_pos c1]
        · rw [if_neg c0, if_neg c1, if_neg c0, if_neg c1]; rfl
end
theorem q_ask (x : Int32) : Cal 94 199 [some (vi x)] := Cal.q fun O A hw hc hm => by
  obtain ⟨w, cw, c9, hT, hS, hI, hB, hM, hP, hF, hSh⟩ := hc
  have hsel := cw.sel
  obtain ⟨mT, mSc, mIm, mN, mP, mF, mSh, mt⟩ := hm
  have hw' := hw
  obtain ⟨wT, wS, wI, wP, wF, wSh, wt⟩ := hw
  have h8 := wT.1
  have h12 := wT.2.1
  have h4 := wT.2.2.1
  have h6 := wT.2.2.2.1
  have wMd : WMd A.1 (mds A.1 A.2.1.2.1 A.2.1.1) := mds_wf _ (by have := wS.1; omega)
  have kmC : ∀ k, k < nK A.1 → KM (O 0 0) k ((mds A.1 A.2.1.2.1 A.2.1.1).2 k) := fun k hk => hM.2.2 k hk (by rw [Nat.testBit_two_pow_sub_one, decide_eq_true hk])
  have kmN : ∀ k, k < nK A.1 → KN (O 7 0) (10 * k) ((mds A.1 A.2.1.2.1 A.2.1.1).2 k) := fun k hk => by have := mN.1 k hk; rwa [Nat.zero_add] at this
  have hlf := wS.2.2.1
  have h64 : 2 ^ nK A.1 ≤ 2 ^ 6 := Nat.pow_le_pow_right (by decide) h6
  by_cases hx : hsI x 3 = true
  · have hx' := hx
    obtain ⟨c, hcc, rfl⟩ := hsI_of (by decide) hx
    by_cases hl0 : A.2.1.2.2.1 = 0
    · refine ⟨oI none, ?_, ?_⟩
      · rw [sX6_ask_0, hsI_ye (by decide) (by omega), hS.2.2.1, hl0, if_pos rfl]
      · rw [sX7_ask_0]
        simp (disch := omega) only [nI_ltI, nI_eq, nI_add, nI_clamp, ib_n, pk_mul, q_and, q_or, q_dn, q_shl, q_shlm, q_p1, if_true, if_false, ↓reduceIte, Option.bind_some, bI_0, bI_1, bI_01, b_or, Nat.not_lt_zero, Nat.zero_add, Bool.false_eq_true, Bool.true_eq_false, or_false, or_true, true_or, false_or, m_in _ _ (nI c) (nI 0) (nI 2) (a := 0) (b := 2) (by decide) (by decide), inI_c, hx']
        refine (sX7_ask_22 ..).trans ?_
        have e177 : ex (39 + 1) 199 177 [none, some (vi (nI c)), some (vi (oI none)), some (vi (nI 0))] [] O = some (oI none, O) := by rw [sX7_ask_177, if_pos rfl]
        rw [mSc.2.2.1, hl0, if_pos rfl, ite_self, e177]
    · refine ⟨oI (if c = 0 then (agO A.1 (mds A.1 A.2.1.2.1 A.2.1.1) A.2.1.2.2.1 (nS A.1)).map (fun p => p.1) else if c = 1 then (agO A.1 (mds A.1 A.2.1.2.1 A.2.1.1) A.2.1.2.2.1 (nS A.1)).map (fun p => p.2.1) else (agO A.1 (mds A.1 A.2.1.2.1 A.2.1.1) A.2.1.2.2.1 (nS A.1)).map (fun p => p.2.2)), ?_, ?_⟩
      · rw [sX6_ask_0, hsI_ye (by decide) (by omega), hS.2.2.1, if_neg (by rw [nI_eq (by omega) (by decide)]; exact hl0)]
        exact m_ask 35 (M := mds A.1 A.2.1.2.1 A.2.1.1) hlf hcc hsel hT wT hS.2.2.1 kmC wMd.2
      · rw [sX7_ask_0]
        simp (disch := omega) only [nI_ltI, nI_eq, nI_add, nI_clamp, ib_n, pk_mul, q_and, q_or, q_dn, q_shl, q_shlm, q_p1, if_true, if_false, ↓reduceIte, Option.bind_some, bI_0, bI_1, bI_01, b_or, Nat.not_lt_zero, Nat.zero_add, Bool.false_eq_true, Bool.true_eq_false, or_false, or_true, true_or, false_or, m_in _ _ (nI c) (nI 0) (nI 2) (a := 0) (b := 2) (by decide) (by decide), inI_c, hx']
        exact n_ask 37 (M := mds A.1 A.2.1.2.1 A.2.1.1) hlf hl0 hcc mT wT mSc.2.2.1 mN wMd
  · have hx := bool_ne hx
    refine ⟨-1, ?_, ?_⟩
    · rw [sX6_ask_0]
      exact hsI_no (by decide) hx _ _
    · rw [sX7_ask_0]
      simp (disch := omega) only [nI_ltI, nI_eq, nI_add, nI_clamp, ib_n, pk_mul, q_and, q_or, q_dn, q_shl, q_shlm, q_p1, if_true, if_false, ↓reduceIte, Option.bind_some, bI_0, bI_1, bI_01, b_or, Nat.not_lt_zero, Nat.zero_add, Bool.false_eq_true, Bool.true_eq_false, or_false, or_true, true_or, false_or, m_in _ _ x (nI 0) (nI 2) (a := 0) (b := 2) (by decide) (by decide), inI_c, hx]
end
