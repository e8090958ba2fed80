/-! THE SEARCH: rows of true showings. -/
section
def tsee (T : Td_) (s t : Nat) (M : Md_) : Md_ := see T 0 s t (isTg T s t) M
def tch (T : Td_) (K s : Nat) (M : Md_) : Bool := !anyFl T M K && samA T M K s
def dfs (T : Td_) (K s : Nat) : Nat → Md_ → Option (List Nat)
  | 0, M => if tch T K s M = true then some [] else none
  | n + 1, M => (List.range (nT T)).findSome? fun t => (dfs T K s n (tsee T s t M)).map fun r => t :: r
/-- minds alike but for where they fled -/
def eqv (μ ν : Mi_) : Prop := μ.1 = ν.1 ∧ μ.2.1 = ν.2.1 ∧ μ.2.2.1 = ν.2.2.1 ∧ μ.2.2.2.isSome = ν.2.2.2.isSome
def EqK (T : Td_) (K : Nat) (M N : Md_) : Prop := M.1 = N.1 ∧ ∀ k, k < nK T → K.testBit k = true → eqv (M.2 k) (N.2 k)
section
variable {T : Td_} {K : Nat}
theorem EqK.rfl {M : Md_} : EqK T K M M := ⟨Eq.refl _, fun _ _ _ => ⟨Eq.refl _, Eq.refl _, Eq.refl _, Eq.refl _⟩⟩
theorem EqK.symm {M N : Md_} (h : EqK T K M N) : EqK T K N M := ⟨h.1.symm, fun k hk hb => ⟨(h.2 k hk hb).1.symm, (h.2 k hk hb).2.1.symm, (h.2 k hk hb).2.2.1.symm, (h.2 k hk hb).2.2.2.symm⟩⟩
theorem EqK.trans {M N P : Md_} (h : EqK T K M N) (g : EqK T K N P) : EqK T K M P := ⟨h.1.trans g.1, fun k hk hb => ⟨(h.2 k hk hb).1.trans (g.2 k hk hb).1, (h.2 k hk hb).2.1.trans (g.2 k hk hb).2.1, (h.2 k hk hb).2.2.1.trans (g.2 k hk hb).2.2.1, (h.2 k hk hb).2.2.2.trans (g.2 k hk hb).2.2.2⟩⟩
theorem thk_eqv {k s t f : Nat} {so : Bool} {μ ν : Mi_} (h : eqv μ ν) : thk T k s t so f μ = thk T k s t so f ν := by
  obtain ⟨h1, h2, h3, -⟩ := h
  unfold thk
  rw [h1, h2, h3]
theorem see1_eqv {k s t i j f : Nat} {so : Bool} {μ ν : Mi_} (h : eqv μ ν) : eqv (see1 T k s t so i f μ) (see1 T k s t so j f ν) := by
  have hh := h
  obtain ⟨h1, h2, h3, h4⟩ := h
  unfold see1
  rw [h4]
  split
  · exact hh
  · split
    · exact ⟨Eq.refl _, Eq.refl _, h3, Eq.refl _⟩
    · unfold look1
      rw [thk_eqv hh, h1, h2, h3]
      exact ⟨Eq.refl _, Eq.refl _, Eq.refl _, h4⟩
theorem see_EqK {s t i j : Nat} {so : Bool} {M N : Md_} (h : EqK T K M N) : EqK T K (see T i s t so M) (see T j s t so N) := by
  refine ⟨?_, fun k hk hb => ?_⟩
  · unfold see
    rw [h.1]
  · show eqv (see1 T k s t so i (M.1 s &&& fitg T t so) (M.2 k)) (see1 T k s t so j (N.1 s &&& fitg T t so) (N.2 k))
    rw [h.1]
    exact see1_eqv (h.2 k hk hb)
theorem anyFl_EqK {M N : Md_} (h : EqK T K M N) : anyFl T M K = anyFl T N K := by
  unfold anyFl
  rw [Bool.eq_iff_iff]
  simp only [List.any_eq_true, List.mem_range, Bool.and_eq_true]
  constructor
  · rintro ⟨k, hk, hb, hf⟩; exact ⟨k, hk, hb, by rw [← (h.2 k hk hb).2.2.2]; exact hf⟩
  · rintro ⟨k, hk, hb, hf⟩; exact ⟨k, hk, hb, by rw [(h.2 k hk hb).2.2.2]; exact hf⟩
theorem samA_EqK {s : Nat} {M N : Md_} (h : EqK T K M N) : samA T M K s = samA T N K s := by
  unfold samA
  rw [Bool.eq_iff_iff]
  simp only [List.all_eq_true, List.mem_range]
  refine forall_congr' fun k => forall_congr' fun hk => ?_
  cases hb : K.testBit k with
  | false => simp
  | true =>
    have : sam T M k s = sam T N k s := by unfold sam; rw [(h.2 k hk hb).1]
    rw [this]
theorem tch_EqK {s : Nat} {M N : Md_} (h : EqK T K M N) : tch T K s M = tch T K s N := by
  unfold tch
  rw [anyFl_EqK h, samA_EqK h]
theorem findSome_ext {α : Type} {f g : Nat → Option α} {l : List Nat} (h : ∀ t, t ∈ l → f t = g t) : l.findSome? f = l.findSome? g := by
  induction l with
  | nil => rfl
  | cons x l ih =>
    rw [List.findSome?_cons, List.findSome?_cons, h x List.mem_cons_self, ih fun t ht => h t (List.mem_cons_of_mem _ ht)]
theorem dfs_EqK {s : Nat} : ∀ (n : Nat) {M N : Md_}, EqK T K M N → dfs T K s n M = dfs T K s n N
  | 0, M, N, h => by unfold dfs; rw [tch_EqK h]
  | n + 1, M, N, h => by
    unfold dfs
    exact findSome_ext fun t _ => by rw [dfs_EqK n (M := tsee T s t M) (N := tsee T s t N) (see_EqK h)]
/-- the minds behind a row -/
def aft (T : Td_) (s : Nat) : List Nat → Md_ → Md_
  | [], M => M
  | t :: l, M => aft T s l (tsee T s t M)
theorem dfs_none {s : Nat} : ∀ (n : Nat) (M : Md_), dfs T K s n M = none ↔ ∀ row : List Nat, row.length = n → (∀ t, t ∈ row → t < nT T) → tch T K s (aft T s row M) = false
  | 0, M => by
    unfold dfs
    constructor
    · intro h row hr _
      rw [List.length_eq_zero_iff.mp hr]
      cases hq : tch T K s M with
      | false => exact hq
      | true => rw [if_pos hq] at h; cases h
    · intro h
      rw [if_neg (by rw [show tch T K s M = false from h [] rfl (fun t ht => by cases ht)]; decide)]
  | n + 1, M => by
    unfold dfs
    rw [List.findSome?_eq_none_iff]
    constructor
    · intro h row hr hm
      cases row with
      | nil => cases hr
      | cons t l =>
        have h1 := h t (List.mem_range.mpr (hm t List.mem_cons_self))
        rw [Option.map_eq_none_iff] at h1
        exact (dfs_none n (tsee T s t M)).mp h1 l (Nat.succ.inj hr) fun q hq => hm q (List.mem_cons_of_mem _ hq)
    · intro h t ht
      rw [Option.map_eq_none_iff]
      refine (dfs_none n (tsee T s t M)).mpr fun l hl hm => h (t :: l) (by rw [List.length_cons, hl]) fun q hq => ?_
      rcases List.mem_cons.mp hq with e | e
      · rw [e]; exact List.mem_range.mp ht
      · exact hm q e
theorem dfs_some {s : Nat} : ∀ (n : Nat) (M : Md_) (row : List Nat), dfs T K s n M = some row → row.length = n ∧ (∀ t, t ∈ row → t < nT T) ∧ tch T K s (aft T s row M) = true
  | 0, M, row, h => by
    unfold dfs at h
    split at h
    · rename_i q
      cases h
      exact ⟨rfl, fun t ht => absurd ht List.not_mem_nil, q⟩
    · cases h
  | n + 1, M, row, h => by
    unfold dfs at h
    obtain ⟨t, ht, h1⟩ := List.exists_of_findSome?_eq_some h
    obtain ⟨l, h2, rfl⟩ := Option.map_eq_some_iff.mp h1
    obtain ⟨a, b, c⟩ := dfs_some n _ l h2
    refine ⟨by rw [List.length_cons, a], fun q hq => ?_, c⟩
    rcases List.mem_cons.mp hq with e | e
    · rw [e]; exact List.mem_range.mp ht
    · exact b q e
theorem fl_stay {s t i : Nat} {so : Bool} {M : Md_} {k : Nat} (h : (M.2 k).2.2.2.isSome = true) : ((see T i s t so M).2 k).2.2.2.isSome = true := by
  show (see1 T k s t so i _ (M.2 k)).2.2.2.isSome = true
  unfold see1
  rw [if_pos h]
  exact h
theorem anyFl_of {M : Md_} {k : Nat} (hk : k < nK T) (hb : K.testBit k = true) (h : (M.2 k).2.2.2.isSome = true) : anyFl T M K = true := by
  unfold anyFl
  rw [List.any_eq_true]
  exact ⟨k, List.mem_range.mpr hk, by rw [hb, h]; rfl⟩
theorem dfs_fled {s k : Nat} (hk : k < nK T) (hb : K.testBit k = true) : ∀ (n : Nat) (M : Md_), (M.2 k).2.2.2.isSome = true → dfs T K s n M = none
  | 0, M, h => by unfold dfs; rw [tch, anyFl_of hk hb h]; rfl
  | n + 1, M, h => by
    unfold dfs
    rw [List.findSome?_eq_none_iff]
    intro t _
    rw [Option.map_eq_none_iff]
    exact dfs_fled hk hb n _ (fl_stay h)
theorem fl_fear {s t i k : Nat} {so : Bool} {M : Md_} (h : fe_ T k = some t) : ((see T i s t so M).2 k).2.2.2.isSome = true := by
  show (see1 T k s t so i _ (M.2 k)).2.2.2.isSome = true
  unfold see1
  split
  · assumption
  · rfl
/-- no hope: a kind fled, or looks at none like the target and thinks none -/
def Hop (T : Td_) (K s : Nat) (M : Md_) : Prop := ∃ k, k < nK T ∧ K.testBit k = true ∧ ((M.2 k).2.2.2.isSome = true ∨ (sam T M k s = false ∧ chs T (M.1 s) k s (M.2 k).1 &&& tgL T s = 0))
theorem inO_no {o : Option Nat} {a b : Nat} (h : ∀ x, o = some x → a.testBit x = true) (hab : a &&& b = 0) : inO o b = false := by
  cases o with
  | none => rfl
  | some x =>
    have h1 := h x rfl
    have := congrArg (fun z => z.testBit x) hab
    simp only [Nat.testBit_and, h1, Bool.true_and, Nat.zero_testBit] at this
    exact this
theorem chs_bit {f k s m : Nat} {th : Nat → Option Nat} (hm : m < 12) : (chs T f k s th).testBit m = ((f.testBit m && (can T k).testBit m) && !taken T k s th m) := by
  rw [chs, ms_bit, decide_eq_true hm, Bool.true_and]
theorem chs_up {f k s : Nat} {th : Nat → Option Nat} {v : Option Nat} : chs T f k s (upF th s v) = chs T f k s th := by
  unfold chs
  refine ms_ext fun m _ => ?_
  congr 2
  unfold taken
  congr 1
  rw [Bool.eq_iff_iff]
  simp only [List.any_eq_true]
  refine exists_congr fun q => and_congr_right fun _ => ?_
  by_cases e : q = s
  · subst e; simp
  · simp only [upF, e, if_false]
theorem chs_sub {f g k s : Nat} {th : Nat → Option Nat} {b : Nat} (h : chs T f k s th &&& b = 0) : chs T (f &&& g) k s th &&& b = 0 := by
  apply Nat.eq_of_testBit_eq
  intro m
  have := congrArg (fun z => z.testBit m) h
  simp only [Nat.testBit_and, Nat.zero_testBit] at this ⊢
  by_cases hm : m < 12
  · rw [chs_bit hm] at this
    rw [chs_bit hm, Nat.testBit_and]
    revert this
    cases f.testBit m <;> cases g.testBit m <;> simp
  · have : (chs T (f &&& g) k s th).testBit m = false := by rw [chs, ms_bit, decide_eq_false hm, Bool.false_and]
    rw [this, Bool.false_and]
theorem thk_no {k s t f : Nat} {so : Bool} {μ : Mi_} (h1 : inO (μ.1 s) (tgL T s) = false) (h2 : chs T f k s μ.1 &&& tgL T s = 0) : inO (thk T k s t so f μ).1 (tgL T s) = false := by
  have hp : inO (plainest T (chs T f k s μ.1)) (tgL T s) = false := inO_no (fun x hx => (plainest_lt hx).2) h2
  unfold thk
  dsimp only
  split
  · dsimp only
    split
    · rename_i hla
      exact inO_no (fun x hx => by rw [hx] at hla; exact hla) h2
    · exact hp
  · split
    · dsimp only
      split
      · exact hp
      · rfl
    · split
      · by_cases hc : ((μ.1 s).isNone || decide (2 ≤ if (μ.1 s).isSome && !inO (μ.1 s) (fitg T t so) then μ.2.1 s + 1 else μ.2.1 s)) = true
        · rw [if_pos hc]; exact hp
        · rw [if_neg hc]; exact h1
      · exact hp
theorem hop_see {s t i : Nat} {so : Bool} {M : Md_} (h : Hop T K s M) : Hop T K s (see T i s t so M) := by
  obtain ⟨k, hk, hb, h⟩ := h
  refine ⟨k, hk, hb, ?_⟩
  rcases h with h | ⟨h1, h2⟩
  · exact Or.inl (fl_stay h)
  · by_cases hfl : (M.2 k).2.2.2.isSome = true
    · exact Or.inl (fl_stay hfl)
    · by_cases hfe : fe_ T k = some t
      · exact Or.inl (fl_fear hfe)
      · right
        have e : (see T i s t so M).2 k = look1 T k s t so (M.1 s &&& fitg T t so) (M.2 k) := by
          show see1 T k s t so i _ (M.2 k) = _
          unfold see1
          rw [if_neg hfl, if_neg hfe]
        have e1 : (see T i s t so M).1 s = M.1 s &&& fitg T t so := by simp only [see, upF, if_true]
        have h3 := chs_sub (g := fitg T t so) h2
        have h1 : inO ((M.2 k).1 s) (tgL T s) = false := h1
        refine ⟨?_, ?_⟩
        · show inO (((see T i s t so M).2 k).1 s) (tgL T s) = false
          rw [e]
          simp only [look1, upF, if_true]
          exact thk_no h1 h3
        · rw [e1, e]
          show chs T (M.1 s &&& fitg T t so) k s (upF (M.2 k).1 s _) &&& tgL T s = 0
          rw [chs_up]
          exact h3
theorem dfs_hop {s : Nat} : ∀ (n : Nat) (M : Md_), Hop T K s M → dfs T K s n M = none
  | 0, M, h => by
    obtain ⟨k, hk, hb, h⟩ := h
    unfold dfs
    rcases h with h | ⟨h, -⟩
    · rw [tch, anyFl_of hk hb h]; rfl
    · have : samA T M K s = false := by
        unfold samA
        rw [List.all_eq_false]
        exact ⟨k, List.mem_range.mpr hk, by rw [hb, h]; decide⟩
      rw [tch, this, Bool.and_false]; rfl
  | n + 1, M, h => by
    unfold dfs
    rw [List.findSome?_eq_none_iff]
    intro t _
    rw [Option.map_eq_none_iff]
    exact dfs_hop n _ (hop_see h)
theorem isIt_eq {t t' m : Nat} (h : isIt T t = isIt T t') (hm : m < nM T) : isA T m t = isA T m t' := by
  have := congrArg (fun z => z.testBit m) h
  simpa [isIt, ms_bit, hm] using this
theorem isTg_eq (wT : WT T) {s t t' : Nat} (hs : s < nS T) (ht : t < nT T) (ht' : t' < nT T) (h : isIt T t = isIt T t') : isTg T s t = isTg T s t' := by
  have hg := wT.2.2.2.2.2.2.1 s hs
  unfold isTg tgA
  rw [are, ms_bit, ms_bit, decide_eq_true ht, decide_eq_true ht', isIt_eq h hg]
theorem fitg_eq {t t' : Nat} {so : Bool} (h : isIt T t = isIt T t') : fitg T t so = fitg T t' so := by
  unfold fitg
  rw [h]
theorem tsee_eq (wT : WT T) {s t t' : Nat} {M : Md_} (hs : s < nS T) (ht : t < nT T) (ht' : t' < nT T) (h : isIt T t = isIt T t') (h1 : ∀ k, k < nK T → K.testBit k = true → fe_ T k ≠ some t) (h2 : ∀ k, k < nK T → K.testBit k = true → fe_ T k ≠ some t') : EqK T K (tsee T s t M) (tsee T s t' M) := by
  have e1 := isTg_eq wT hs ht ht' h
  refine ⟨?_, fun k hk hb => ?_⟩
  · show upF M.1 s (M.1 s &&& fitg T t (isTg T s t)) = upF M.1 s (M.1 s &&& fitg T t' (isTg T s t'))
    rw [e1, fitg_eq h]
  · show eqv (see1 T k s t (isTg T s t) 0 (M.1 s &&& fitg T t (isTg T s t)) (M.2 k)) (see1 T k s t' (isTg T s t') 0 (M.1 s &&& fitg T t' (isTg T s t')) (M.2 k))
    have : see1 T k s t (isTg T s t) 0 (M.1 s &&& fitg T t (isTg T s t)) (M.2 k) = see1 T k s t' (isTg T s t') 0 (M.1 s &&& fitg T t' (isTg T s t')) (M.2 k) := by
      rw [e1, fitg_eq h]
      unfold see1
      rw [if_neg (h1 k hk hb), if_neg (h2 k hk hb)]
      unfold look1 thk
      rw [fitg_eq h]
    rw [this]
    exact ⟨Eq.refl _, Eq.refl _, Eq.refl _, Eq.refl _⟩
theorem aft_app (T : Td_) (s : Nat) : ∀ (l r : List Nat) (M : Md_), aft T s (l ++ r) M = aft T s r (aft T s l M)
  | [], _, _ => Eq.refl _
  | t :: l, r, M => aft_app T s l r (tsee T s t M)
end
end
