/-! THE CLASS'S SEARCH, 2: reaches, findRow. -/
section
/-- what a search from depth p on leaves -/
def Frm (p : Nat) (O O' : Mem_) : Prop := (∀ c, c ≠ 0 → c ≠ 5 → O' c = O c) ∧ (∀ q, q ≤ 2 + p ∨ 8 ≤ q → O' 0 q = O 0 q) ∧ (∀ n, n ≠ 0 → O' 5 n = O 5 n) ∧ ∀ a b, a ≠ 1 ∨ b < p → O' 5 0 a b = O 5 0 a b
theorem Frm.rfl {p : Nat} {O : Mem_} : Frm p O O := ⟨fun _ _ _ => Eq.refl _, fun _ _ => Eq.refl _, fun _ _ => Eq.refl _, fun _ _ _ => Eq.refl _⟩
theorem Frm.trans {p : Nat} {O O' O2 : Mem_} (h : Frm p O O') (g : Frm p O' O2) : Frm p O O2 := ⟨fun c a b => (g.1 c a b).trans (h.1 c a b), fun q a => (g.2.1 q a).trans (h.2.1 q a), fun n a => (g.2.2.1 n a).trans (h.2.2.1 n a), fun a b c => (g.2.2.2 a b c).trans (h.2.2.2 a b c)⟩
theorem Frm.mono {p p' : Nat} {O O' : Mem_} (h : Frm p O O') (hp : p' ≤ p) : Frm p' O O' := ⟨h.1, fun q a => h.2.1 q (by omega), h.2.2.1, fun a b c => h.2.2.2 a b (by omega)⟩
theorem Frm.ro {p i : Nat} {O O' : Mem_} (h : Ro 0 i O O') (hi : 2 + p < i ∧ i < 8) : Frm p O O' := ⟨fun c a _ => funext fun n => h c n (Or.inl a), fun q a => h 0 q (Or.inr (by omega)), fun n _ => h 5 n (Or.inl (by decide)), fun a b _ => by rw [h 5 0 (Or.inl (by decide))]⟩
theorem Frm.up {p j : Nat} {v : Int32} {O : Mem_} (hj : p ≤ j) : Frm p O (up O 5 0 1 j v) := ⟨fun c _ b => funext fun n => up_row (Or.inl b), fun q _ => up_row (Or.inl (by decide)), fun n a => up_row (Or.inr a), fun a b c => up_ne (by omega)⟩
section
variable {T : Td_} {w K s n W : Nat}
/-- the tutor's own words -/
def TuW (O : Mem_) (n K s W : Nat) : Prop := O 5 0 0 1 = nI n ∧ O 5 0 0 7 = nI K ∧ O 5 0 0 8 = nI s ∧ O 5 0 0 9 = nI W
theorem TuW.frm {p : Nat} {O O' : Mem_} (h : TuW O n K s W) (g : Frm p O O') : TuW O' n K s W := ⟨(g.2.2.2 _ _ (Or.inl (by decide))).trans h.1, (g.2.2.2 _ _ (Or.inl (by decide))).trans h.2.1, (g.2.2.2 _ _ (Or.inl (by decide))).trans h.2.2.1, (g.2.2.2 _ _ (Or.inl (by decide))).trans h.2.2.2⟩
theorem CT.frm {p : Nat} {O O' : Mem_} (h : CT (O 4 w) T) (g : Frm p O O') : CT (O' 4 w) T := by rw [g.1 4 (by decide) (by decide)]; exact h
theorem nofl_see {sn t i : Nat} {so : Bool} {M : Md_} (hf : ∀ k, k < nK T → K.testBit k = true → (M.2 k).2.2.2 = none) (h : fea T K t = false) : ∀ k, k < nK T → K.testBit k = true → ((see T sn i t so M).2 k).2.2.2 = none := fun k hk hb => by
  show (see1 T k i t so sn _ (M.2 k)).2.2.2 = none
  unfold see1
  rw [hf k hk hb, if_neg (by decide), if_neg (fea_f h k hk hb)]
  exact hf k hk hb
theorem anyFl_no {M : Md_} (hf : ∀ k, k < nK T → K.testBit k = true → (M.2 k).2.2.2 = none) : anyFl T M K = false := by
  unfold anyFl
  rw [List.any_eq_false]
  intro k hk h
  rw [Bool.and_eq_true] at h
  rw [hf k (List.mem_range.mp hk) h.1] at h
  cases h.2
theorem dfs_s {T : Td_} {K s n : Nat} {M : Md_} : dfs T K s (n + 1) M = (List.range (nT T)).findSome? fun t => (dfs T K s n (tsee T s t M)).map fun r => t :: r := rfl
theorem m_reaches (hn : n ≤ 5) (hK : K < 2 ^ 31) (hs : s < nS T) (hW : W < 256) (hWP : WP T K W) (wT : WT T) (d : Nat) : ∀ (m p sn : Nat) (O : Mem_) (M : Md_), p + m = n → sn + m < 1000 → CT (O 4 w) T → TuW O n K s W → CM (O 0 (2 + p)) T K sn M → WMd T M → (∀ k, k < nK T → K.testBit k = true → (M.2 k).2.2.2 = none) → (∀ j, j < m → dfs T K s j M = none) →
    ∃ O', ex (d + m + 5) 63 0 [some (vr 5 0 0), some (vr 4 w 0), some (vi (nI p))] [] O = some (bI (dfs T K s m M).isSome, O') ∧ Frm p O O' ∧ ∀ row, dfs T K s m M = some row → (∀ j, j < m → O' 5 0 1 (p + j) = nI (row.getD j 0)) ∧ ∃ sn' M', sn' ≤ sn + m ∧ CM (O' 0 (2 + n)) T K sn' M' ∧ WMd T M' ∧ EqK T K M' (aft T s row M) := by
  intro m
  have h8 := wT.1
  have h4 := wT.2.2.1
  induction m with
  | zero =>
    intro p sn O M hp hsn hT hU hm hw hf hd
    have hpn : p = n := by omega
    subst hpn
    refine ⟨O, ?_, Frm.rfl, fun row h => ?_⟩
    · have e13 : ex (d + 0 + 5) 63 13 [some (vr 5 0 0), some (vr 4 w 0), some (vi (nI p))] [] O = some (bI (dfs T K s 0 M).isSome, O) := by
        rw [sX5_reaches_13, nI_clamp (by omega), if_pos (ib_n (by omega) (by decide)), hU.2.1, hU.2.2.1, m_isSameForAll d hK hs hT wT hm.2.2 hw.2]
        simp only [Option.bind_some]
        rw [if_pos ((bI_01 _).mpr True.intro)]
        have : dfs T K s 0 M = if samA T M K s = true then some [] else none := by
          unfold dfs
          rw [tch, anyFl_no hf, Bool.not_false, Bool.true_and]
        rw [this]
        cases samA T M K s <;> rfl
      rw [sX5_reaches_0, hU.1, if_neg (nI_nlt (Nat.le_refl _) (by omega))]
      exact e13
    · have : row = [] := by
        have := (dfs_some 0 M row h).1
        exact List.length_eq_zero_iff.mp this
      subst this
      exact ⟨fun j hj => absurd hj (Nat.not_lt_zero j), sn, M, by omega, hm, hw, EqK.rfl⟩
  | succ m ih =>
    intro p sn O M hp hsn hT hU hm hw hf hd
    have hp5 : p < 5 := by omega
    -- the loop over things
    have loop : ∀ r t O', t + r = nT T → Frm p O O' → (∀ t', t' < t → dfs T K s m (tsee T s t' M) = none) → ∃ O2, ex (d + (m + 1) + 5) 63 34 [some (vr 5 0 0), some (vr 4 w 0), some (vi (nI p)), some (vi (nI t))] [] O' = some (bI ((List.range' t r).findSome? fun t => (dfs T K s m (tsee T s t M)).map fun r => t :: r).isSome, O2) ∧ Frm p O O2 ∧ ∀ row, ((List.range' t r).findSome? fun t => (dfs T K s m (tsee T s t M)).map fun r => t :: r) = some row → (∀ j, j < m + 1 → O2 5 0 1 (p + j) = nI (row.getD j 0)) ∧ ∃ sn' M', sn' ≤ sn + (m + 1) ∧ CM (O2 0 (2 + n)) T K sn' M' ∧ WMd T M' ∧ EqK T K M' (aft T s row M) := by
      intro r
      induction r with
      | zero =>
        intro t O' ht hfr hno
        refine ⟨O', (sX5_reaches_34 ..).trans ?_, hfr, fun row h => by cases h⟩
        rw [(hT.frm hfr).1.1, if_neg (nI_nlt (by omega) (by omega))]
        rfl
      | succ r ihr =>
        intro t O' ht hfr hno
        have ht' : t < nT T := by omega
        have hT' := hT.frm hfr
        have hU' := hU.frm hfr
        -- a thing that fails
        have next : ∀ O2, Frm p O O2 → dfs T K s m (tsee T s t M) = none → ex (d + (m + 1) + 5) 63 34 [some (vr 5 0 0), some (vr 4 w 0), some (vi (nI p)), some (vi (nI t))] [] O' = ex (d + (m + 1) + 5) 63 34 [some (vr 5 0 0), some (vr 4 w 0), some (vi (nI p)), some (vi (nI (t + 1)))] [] O2 → ∃ O2, ex (d + (m + 1) + 5) 63 34 [some (vr 5 0 0), some (vr 4 w 0), some (vi (nI p)), some (vi (nI t))] [] O' = some (bI ((List.range' t (r + 1)).findSome? fun t => (dfs T K s m (tsee T s t M)).map fun r => t :: r).isSome, O2) ∧ Frm p O O2 ∧ ∀ row, ((List.range' t (r + 1)).findSome? fun t => (dfs T K s m (tsee T s t M)).map fun r => t :: r) = some row → (∀ j, j < m + 1 → O2 5 0 1 (p + j) = nI (row.getD j 0)) ∧ ∃ sn' M', sn' ≤ sn + (m + 1) ∧ CM (O2 0 (2 + n)) T K sn' M' ∧ WMd T M' ∧ EqK T K M' (aft T s row M) := fun O2 hf2 hnone hstep => by
          obtain ⟨O3, e3, g3, r3⟩ := ihr (t + 1) O2 (by omega) hf2 (fun t' h => by
            by_cases z : t' = t
            · rw [z]; exact hnone
            · exact hno t' (by omega))
          refine ⟨O3, ?_, g3, ?_⟩
          · rw [List.range'_succ, List.findSome?_cons, hnone]
            exact hstep.trans e3
          · rw [List.range'_succ, List.findSome?_cons, hnone]
            exact r3
        have hmr := m_isIn (d + (m + 1) + 3) O' (i := t) (b := W) (by omega) (by omega)
        cases hwt : W.testBit t with
        | false =>
          have hnone : dfs T K s m (tsee T s t M) = none := by
            by_cases hfe : fea T K t = true
            · obtain ⟨k, hk, hb, hk2⟩ := fea_t hfe
              exact dfs_fled hk hb m _ (fl_fear hk2)
            · have hfe := bool_ne hfe
              rcases (hWP t ht').2 hwt with h | ⟨t2, h1, h2, h3⟩
              · rw [h] at hfe; cases hfe
              · have hfe2 := (hWP t2 (by omega)).1 h2
                rw [← dfs_EqK m (tsee_eq wT hs (show t2 < nT T by omega) ht' h3 (fea_f hfe2) (fea_f hfe))]
                exact hno t2 h1
          refine next O' hfr hnone ((sX5_reaches_34 ..).trans ?_)
          rw [hT'.1.1, if_pos (nI_lt ht' (by omega)), hU'.2.2.2, show d + (m + 1) + 4 = d + (m + 1) + 3 + 1 from rfl, hmr, hwt]
          simp only [Option.bind_some]
          rw [if_pos bI_f, nI_add]
        | true =>
          have hfe := (hWP t ht').1 hwt
          -- the showing
          obtain ⟨O1, e1, r1, m1⟩ := m_becomeM (O := O') (i := 2 + (p + 1)) (j := 2 + p) (d + (m + 1) + 3) (K := K) (sn := sn) (M := M) (by omega) wT (by rw [hfr.2.1 _ (Or.inl (Nat.le_refl _))]; exact hm)
          have f1 : Frm p O' O1 := Frm.ro r1 (by omega)
          have f1' : Frm p O' (up O1 5 0 1 p (nI t)) := f1.trans (Frm.up (Nat.le_refl _))
          have hT1 : CT ((up O1 5 0 1 p (nI t)) 4 w) T := hT'.frm f1'
          have hU1 := hU'.frm f1'
          obtain ⟨c, O2, e2, r2, m2, hc⟩ := m_see (O := up O1 5 0 1 p (nI t)) (n := w) (i := 2 + (p + 1)) (d + (m + 1)) (K := K) (s := s) (t := t) (so := isTg T s t) (sn := sn) (M := M) hK hs ht' hT1 wT (by rw [up_row (Or.inl (by decide))]; exact m1) hw (by omega)
          have f2 : Frm p O' O2 := f1'.trans (Frm.ro r2 (by omega))
          have f3 := hfr.trans f2
          have hrow : O2 5 0 1 p = nI t := by rw [r2 5 0 (Or.inl (by decide)), up_eq]
          have heq : EqK T K (tsee T s t M) (see T sn s t (isTg T s t) M) := see_EqK EqK.rfl
          have st : ex (d + (m + 1) + 5) 63 34 [some (vr 5 0 0), some (vr 4 w 0), some (vi (nI p)), some (vi (nI t))] [] O' = if c = false then ex (d + (m + 1) + 5) 63 34 [some (vr 5 0 0), some (vr 4 w 0), some (vi (nI p)), some (vi (nI (t + 1)))] [] O2 else ((ex (d + (m + 1) + 4) 63 0 [some (vr 5 0 0), some (vr 4 w 0), some (vi (nI (p + 1)))] [] O2).bind fun r4 => if r4.1 = nI 0 then (ex (d + (m + 1) + 5) 63 34 [some (vr 5 0 0), some (vr 4 w 0), some (vi (nI p)), some (vi (nI (t + 1)))] [] r4.2) else (some ((nI 1), r4.2))) := by
            refine (sX5_reaches_34 ..).trans ?_
            rw [hT'.1.1, if_pos (nI_lt ht' (by omega)), hU'.2.2.2, show d + (m + 1) + 4 = d + (m + 1) + 3 + 1 from rfl, hmr, hwt]
            simp only [Option.bind_some]
            rw [if_neg (by decide), nI_add, nI_clamp (show p + 1 < 2 ^ 31 by omega), nI_clamp (show p < 2 ^ 31 by omega), if_pos (ib_n (by omega) (by decide)), if_pos (ib_n (by omega) (by decide)), e1]
            simp only [Option.bind_some]
            rw [if_pos (ib_n hp5 (by decide)), hU1.2.2.1, m_isTarget (d + (m + 1) + 1) hs (by omega) hT1 wT]
            simp only [Option.bind_some]
            rw [hU1.2.1, e2]
            simp only [Option.bind_some]
            rw [nI_add]
            cases c with
            | false => rw [if_pos bI_f, if_pos rfl]
            | true => rw [if_neg (by decide), if_neg (by decide)]
          cases c with
          | false =>
            obtain ⟨h1, h2⟩ := hc rfl
            have hsame : EqK T K (see T sn s t (isTg T s t) M) M := ⟨h1, fun k hk hb => by rw [h2 k hk hb]; exact ⟨rfl, rfl, rfl, rfl⟩⟩
            refine next O2 f3 ?_ (st.trans (if_pos rfl))
            rw [dfs_EqK m (heq.trans hsame)]
            exact hd m (Nat.lt_succ_self m)
          | true =>
            have hdd : ∀ j, j < m → dfs T K s j (see T sn s t (isTg T s t) M) = none := fun j hj => by
              have := hd (j + 1) (by omega)
              rw [dfs_s] at this
              rw [List.findSome?_eq_none_iff] at this
              have := this t (List.mem_range.mpr ht')
              rw [Option.map_eq_none_iff] at this
              rw [← dfs_EqK j heq]
              exact this
            obtain ⟨O3, e3, g3, r3⟩ := ih (p + 1) (sn + 1) O2 (see T sn s t (isTg T s t) M) (by omega) (by omega) (hT.frm f3) (hU.frm f3) m2 (see_wf (by omega) hw) (nofl_see hf hfe) hdd
            rw [← dfs_EqK m heq] at e3 r3
            have f4 := f3.trans (g3.mono (Nat.le_succ p))
            have e3' : ex (d + (m + 1) + 4) 63 0 [some (vr 5 0 0), some (vr 4 w 0), some (vi (nI (p + 1)))] [] O2 = some (bI (dfs T K s m (tsee T s t M)).isSome, O3) := by
              rw [show d + (m + 1) + 4 = d + m + 5 by omega]
              exact e3
            rw [if_neg (by decide), e3'] at st
            simp only [Option.bind_some] at st
            cases hq : dfs T K s m (tsee T s t M) with
            | none =>
              rw [hq] at st
              exact next O3 f4 hq (st.trans (if_pos bI_f))
            | some row =>
              rw [hq] at st
              obtain ⟨a1, sn', M', a2, a3, a4, a5⟩ := r3 row hq
              refine ⟨O3, ?_, f4, fun row' h => ?_⟩
              · rw [List.range'_succ, List.findSome?_cons, hq]
                exact st.trans (if_neg (show ¬ bI true = nI 0 by decide))
              · rw [List.range'_succ, List.findSome?_cons, hq] at h
                have h : t :: row = row' := Option.some.inj h
                subst h
                refine ⟨fun j hj => ?_, sn', M', by omega, a3, a4, a5.trans ?_⟩
                · cases j with
                  | zero => rw [Nat.add_zero, g3.2.2.2 1 p (Or.inr (Nat.lt_succ_self p)), hrow]; rfl
                  | succ j =>
                    have := a1 j (by omega)
                    rw [show p + (j + 1) = p + 1 + j by omega, this]; rfl
                · have aftE : ∀ (l : List Nat) (M N : Md_), EqK T K M N → EqK T K (aft T s l M) (aft T s l N) := by
                    intro l
                    induction l with
                    | nil => exact fun _ _ h => h
                    | cons x l ih => exact fun M N h => ih _ _ (see_EqK h)
                  exact aftE row _ _ heq.symm
    obtain ⟨O2, e2, g2, r2⟩ := loop (nT T) 0 O (by omega) Frm.rfl (fun t' h => by omega)
    refine ⟨O2, ?_, g2, ?_⟩
    · rw [sX5_reaches_0, hU.1, if_pos (nI_lt (by omega) (by omega)), if_pos (nI_lt hp5 (by decide)), e2]
      rw [dfs_s, List.range_eq_range']
    · rw [dfs_s, List.range_eq_range']
      exact r2
end
end
