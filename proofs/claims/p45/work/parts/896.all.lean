/-! THE LAW'S OWN MINDS: all showings. -/
section
variable {T : Td_} {O : Mem_}
theorem crf_sub {k x : Nat} {p : Option Nat} {m : Nat} (h : crf T k x p = some m) : p = some m := by
  unfold crf at h
  split at h
  · split at h
    · exact h
    · cases h
  · exact h
theorem lsk_sub {k x m : Nat} {lt : Option Nat} (h : lsk T k x (plainest T x) lt = some m) : x.testBit m = true := by
  unfold lsk at h
  split at h
  · split at h
    · rename_i g
      rw [h] at g
      exact g
    · exact (plainest_lt h).2
  · exact (plainest_lt h).2
theorem pr_aux {w : Nat} {p o : Option Nat} : (if (o.isNone || decide (2 ≤ w)) = true then (p, 0) else (o, w)).1 = none → (if (o.isNone || decide (2 ≤ w)) = true then (p, 0) else (o, w)).2 = 0 := by
  by_cases c : (o.isNone || decide (2 ≤ w)) = true
  · rw [if_pos c]
    exact fun _ => rfl
  · rw [if_neg c]
    intro h
    have h : o = none := h
    subst h
    exact absurd rfl c
theorem prd_0 {k s t : Nat} {so : Bool} {p : Option Nat} {μ : Mi_} (h : (prd T k s t so p μ).1 = none) (hz : so_ T k ≠ 3 → μ.2.1 s = 0) : (prd T k s t so p μ).2 = 0 := by
  unfold prd at h ⊢
  by_cases c3 : so_ T k = 3
  · rw [if_pos c3] at h ⊢
    exact pr_aux h
  · rw [if_neg c3]
    exact hz c3
/-- what minds hold beside -/
def IV2 (T : Td_) (k : Nat) (M : Md_) : Prop := IV T (M.2 k) ∧ (so_ T k ≠ 3 → (∀ q, (M.2 k).2.1 q = 0) ∧ ((M.2 k).2.2.2 = none → ∀ s m, (M.2 k).1 s = some m → (M.1 s).testBit m = true))
theorem iv_see {k i s t : Nat} {so : Bool} {M : Md_} (hs : s < nS T) (h : IV2 T k M) : IV2 T k (see T i s t so M) := by
  obtain ⟨⟨h1, h2⟩, h3⟩ := h
  have e : (see T i s t so M).2 k = see1 T k s t so i (M.1 s &&& fitg T t so) (M.2 k) := rfl
  unfold IV2
  rw [e]
  unfold see1
  split
  · rename_i hf
    refine ⟨⟨h1, h2⟩, fun z => ⟨(h3 z).1, fun z2 => ?_⟩⟩
    rw [z2] at hf
    cases hf
  · rename_i hf
    split
    · refine ⟨⟨fun _ _ => rfl, fun _ _ => rfl⟩, fun z => ⟨fun _ => rfl, fun z2 => ?_⟩⟩
      cases z2
    · have hfl : (M.2 k).2.2.2 = none := by
        cases z : (M.2 k).2.2.2 with
        | none => rfl
        | some j => rw [z] at hf; exact absurd rfl hf
      unfold look1
      rw [thk_is]
      generalize hp : crf T k (chs T (M.1 s &&& fitg T t so) k s (M.2 k).1) (lsk T k (chs T (M.1 s &&& fitg T t so) k s (M.2 k).1) (plainest T (chs T (M.1 s &&& fitg T t so) k s (M.2 k).1)) (M.2 k).2.2.1) = p
      have hpm : ∀ m, p = some m → (M.1 s &&& fitg T t so).testBit m = true := fun m hm => by
        rw [hm] at hp
        have := lsk_sub (crf_sub hp)
        rw [chs, ms_bit, Bool.and_eq_true, Bool.and_eq_true, Bool.and_eq_true] at this
        exact this.2.1.1
      refine ⟨⟨fun q hq => ?_, fun q hq => ?_⟩, fun z => ⟨fun q => ?_, fun _ q m hm => ?_⟩⟩
      · show (if q = s then _ else (M.2 k).1 q) = none
        rw [if_neg (by omega)]
        exact h1 q hq
      · show (if q = s then _ else (M.2 k).2.1 q) = 0
        have hq : (if q = s then (prd T k s t so p (M.2 k)).1 else (M.2 k).1 q) = none := hq
        by_cases c : q = s
        · rw [if_pos c] at hq ⊢
          exact prd_0 hq fun z => (h3 z).1 s
        · rw [if_neg c] at hq ⊢
          exact h2 q hq
      · show (if q = s then _ else (M.2 k).2.1 q) = 0
        unfold prd
        rw [if_neg z]
        split
        · exact (h3 z).1 s
        · exact (h3 z).1 q
      · have hm : (if q = s then (prd T k s t so p (M.2 k)).1 else (M.2 k).1 q) = some m := hm
        show (if q = s then (M.1 s &&& fitg T t so) else M.1 q).testBit m = true
        unfold prd at hm
        rw [if_neg z] at hm
        split at hm
        · rw [if_pos (by assumption)]
          exact hpm m hm
        · rw [if_neg (by assumption)]
          exact (h3 z).2 hfl q m hm
theorem iv_mds {f : Nat → Nat × Nat × Bool} {k : Nat} : ∀ n, (∀ j, j < n → (f j).1 < nS T) → IV2 T k (mds T f n)
  | 0, _ => ⟨⟨fun _ _ => rfl, fun _ _ => rfl⟩, fun _ => ⟨fun _ => rfl, fun _ s m h => by cases h⟩⟩
  | n + 1, h => iv_see (h n (Nat.lt_succ_self n)) (iv_mds n fun j hj => h j (by omega))
theorem SH.of8 {O' : Mem_} {f : Nat → Nat × Nat × Bool} {n : Nat} (h : SH (O 7 0) f n) (e : Fr8 O O') : SH (O' 7 0) f n := by
  unfold SH at h ⊢
  rw [e.2 7 (by decide)]
  exact h
theorem l_all (d : Nat) {f : Nat → Nat × Nat × Bool} {n : Nat} (hT : WT T) (hB : LB T) (la : LA T (O 7 0)) (hn : n ≤ 20) (sh : SH (O 7 0) f n) (hf : ∀ j, j < n → (f j).1 < nS T ∧ (f j).2.1 < nT T) : ∃ O', ex (d + 4) 135 0 [some (vr 7 0 8), some (vr 7 0 7), some (vi (nI n)), some (vr 7 0 2), some (vr 7 0 4), some (vr 7 0 5)] [] O = some (nI 0, O') ∧ Fr8 O O' ∧ ∀ k, k < nK T → KS (O' 7 0) k ((mds T f n).2 k) := by
  obtain ⟨b1, b2, b3, b4, b5, b6, b7, b8⟩ := hB
  have hB : LB T := ⟨b1, b2, b3, b4, b5, b6, b7, b8⟩
  have i3 : (nI 3).toNatClampNeg = 3 := by decide
  obtain ⟨O1, e1, f1, k1⟩ := l_fresh (d + 2) (O := O)
  have s0 := sL_all_0 (d + 3) O (nI n)
  rw [e1, Option.bind_some] at s0
  obtain ⟨O2, e2, f2, k2⟩ := lp_i (fun j (O : Mem_) => ex (d + 4) 135 7 [some (vr 7 0 8), some (vr 7 0 7), some (vi (nI n)), some (vr 7 0 2), some (vr 7 0 4), some (vr 7 0 5), some (vi (nI j))] [] O) (fun j O' => Fr8 O O' ∧ ∀ k, k < nK T → KS (O' 7 0) k ((mds T f j).2 k)) n (fun j O' hj ⟨ff, kk⟩ => by
    have la' := la.of8 ff
    have sh' := sh.of8 ff
    obtain ⟨s1, s2, s3⟩ := sh' j hj
    obtain ⟨g1, g2⟩ := hf j hj
    have st := sL_all_7 (d + 3) O' (nI n) (nI j)
    rw [if_pos (by rw [nI_ltI (by omega) (by omega)]; exact hj), pk_mul, nI_add, if_pos (ib_n (by omega) (by decide)), nI_clamp (by omega), s1, l_fitting (d + 2) (n := j + 1) hT hB la' (by omega) (by omega) (fun q hq => sh' q (by omega)) (fun q hq => hf q (by omega))] at st
    simp only [Option.bind_some] at st
    obtain ⟨O3, e3, f3, k3⟩ := lp_i (fun q (O : Mem_) => ex (d + 4) 135 35 [some (vr 7 0 8), some (vr 7 0 7), some (vi (nI n)), some (vr 7 0 2), some (vr 7 0 4), some (vr 7 0 5), some (vi (nI j)), some (vi (nI ((mds T f (j + 1)).1 (f j).1))), some (vi (nI q))] [] O) (fun q O' => Fr8 O O' ∧ ∀ k, k < nK T → KS (O' 7 0) k (if k < q then (mds T f (j + 1)).2 k else (mds T f j).2 k)) (nK T) (fun q O3 hq ⟨f3, k3⟩ => by
      have la3 := la.of8 f3
      obtain ⟨s1, s2, s3⟩ := (sh.of8 f3) j hj
      have st3 := sL_all_35 (d + 3) O3 (nI n) (nI j) (nI ((mds T f (j + 1)).1 (f j).1)) (nI q)
      have hkq := k3 q hq
      rw [if_neg (Nat.lt_irrefl q)] at hkq
      have hwm := mds_wf (T := T) (f := f) j (by omega)
      have hwm2 := mds_wf (T := T) (f := f) (j + 1) (by omega)
      obtain ⟨O4, e4, u4, k4⟩ := l_learns d (i := j) (so := (f j).2.2) (f := (mds T f (j + 1)).1 (f j).1) hT hB la3 hq g1 g2 (hwm2.1 _) (hwm.2 q) (iv_mds (T := T) (f := f) (k := q) j (fun y hy => (hf y (by omega)).1)).1 hkq
      rw [if_pos (by decide), i3, la3.1.2.2.2, if_pos (by rw [nI_ltI (by omega) (by omega)]; exact hq), pk_mul, nI_add, nI_add, nI_add, if_pos (ib_n (by omega) (by decide)), if_pos (ib_n (by omega) (by decide)), if_pos (ib_n (by omega) (by decide)), nI_clamp (by omega), nI_clamp (by omega), nI_clamp (by omega), s1, s2, s3, e4, Option.bind_some] at st3
      refine ⟨O4, st3, f3.trans u4.1, fun k hk => ?_⟩
      by_cases c : k = q
      · subst c
        rw [if_pos (Nat.lt_succ_self k)]
        have e5 : (mds T f (j + 1)).1 (f j).1 = (mds T f j).1 (f j).1 &&& fitg T (f j).2.1 (f j).2.2 := by
          show (if (f j).1 = (f j).1 then _ else _) = _
          rw [if_pos rfl]
        rw [e5] at k4
        exact k4
      · have := (k3 k hk).row (O' := O4) (fun y hy hy2 => u4.2 y (by omega))
        by_cases c2 : k < q
        · rw [if_pos (by omega)]; rw [if_pos c2] at this; exact this
        · rw [if_neg (by omega)]; rw [if_neg c2] at this; exact this) O' ⟨ff, fun k hk => by rw [if_neg (Nat.not_lt_zero k)]; exact kk k hk⟩
    have la3 := la.of8 f3
    have st4 := sL_all_35 (d + 3) O3 (nI n) (nI j) (nI ((mds T f (j + 1)).1 (f j).1)) (nI (nK T))
    rw [if_pos (by decide), i3, la3.1.2.2.2, if_neg (by rw [nI_ltI (by omega) (by omega)]; omega), nI_add] at st4
    exact ⟨O3, st.trans (e3.trans st4), f3, fun k hk => by have := k3 k hk; rw [if_pos hk] at this; exact this⟩) O1 ⟨f1, fun k hk => k1 k (by omega)⟩
  have s7 := sL_all_7 (d + 3) O2 (nI n) (nI n)
  rw [if_neg (by rw [nI_ltI (by omega) (by omega)]; omega)] at s7
  exact ⟨O2, s0.trans (e2.trans s7), f2, k2⟩
end
