/-! THE CLASS'S MINDS, 2: blank, become. -/
section
variable {T : Td_} {O : Mem_} {n i : Nat}
/-- minds of some kinds, behind so many showings -/
def CM (R : Nat → Nat → Int32) (T : Td_) (K sn : Nat) (M : Md_) : Prop := R 0 0 = nI sn ∧ (∀ s, s < 4 → R 6 s = nI (M.1 s)) ∧ ∀ k, k < nK T → K.testBit k = true → KM R k (M.2 k)
def WMd (T : Td_) (M : Md_) : Prop := (∀ s, M.1 s < 2 ^ nM T) ∧ ∀ k, WMi T (M.2 k)
theorem WMd.f {M : Md_} (h : WMd T M) (hT : WT T) : ∀ s, M.1 s < 4096 := fun s => Nat.lt_of_lt_of_le (h.1 s) (Nat.pow_le_pow_right (n := 2) (by decide) hT.2.1)
theorem see_wf {M : Md_} {sn s t : Nat} {so : Bool} (hsn : sn < 1000) (h : WMd T M) : WMd T (see T sn s t so M) := by
  refine ⟨fun q => ?_, fun k => see1_wf hsn (h.2 k)⟩
  simp only [see, upF]
  split
  · exact Nat.lt_of_le_of_lt Nat.and_le_left (h.1 s)
  · exact h.1 q
theorem mi0_wf : WMi T mi0 := ⟨fun _ _ q => absurd q (by simp [mi0]), fun _ => Nat.zero_lt_two, fun _ q => absurd q (by simp [mi0]), fun _ q => absurd q (by simp [mi0])⟩
theorem md0_wf : WMd T (md0 T) := ⟨fun _ => Nat.sub_lt (Nat.two_pow_pos _) (by decide), fun _ => mi0_wf⟩
theorem mds_wf {f : Nat → Nat × Nat × Bool} : ∀ n, n ≤ 1000 → WMd T (mds T f n)
  | 0, _ => md0_wf
  | n + 1, h => see_wf (by omega) (mds_wf n (by omega))
theorem mds_ext {f g : Nat → Nat × Nat × Bool} : ∀ n, (∀ j, j < n → f j = g j) → mds T f n = mds T g n
  | 0, _ => rfl
  | n + 1, h => by
    unfold mds
    rw [h n (by omega), mds_ext n (fun j hj => h j (by omega))]
theorem m_blank (d : Nat) (h : CT (O 4 n) T) (hT : WT T) : ∃ O', ex (d + 2) 0 0 [some (vr 0 i 0), some (vr 4 n 0)] [] O = some (nI 0, O') ∧ Ro 0 i O O' ∧ ∀ K, CM (O' 0 i) T K 0 (md0 T) := by
  have h6 := hT.2.2.2.1
  rw [sX0_blank_0]
  refine Exists.elim (lp_i (fun s (O : Mem_) => ex (d + 2) 0 7 [some (vr 0 i 0), some (vr 4 n 0), some (vi (nI s))] [] O) (fun s O' => Ro 0 i O O' ∧ O' 0 i 0 0 = nI 0 ∧ ∀ q, q < s → O' 0 i 2 q = oI none ∧ O' 0 i 3 q = nI 0) 24 ?_ (up O 0 i 0 0 (nI 0)) ⟨Ro.rfl.up, up_eq .., fun q hq => by omega⟩) ?_
  · intro s O' hs ⟨h1, h2, h3⟩
    refine ⟨up (up O' 0 i 2 s (oI none)) 0 i 3 s (nI 0), ?_, h1.up.up, ?_, fun q hq => ?_⟩
    · refine (sX0_blank_7 ..).trans ?_
      simp (disch := omega) only [nI_ltI, nI_eq, nI_add, nI_clamp, ib_n, pk_mul, q_and, q_or, q_dn, q_shl, q_shlm, q_p1, if_true, if_false, ↓reduceIte, Option.bind_some, bI_0, bI_1, bI_01, b_or, Nat.not_lt_zero, Nat.zero_add, Bool.false_eq_true, Bool.true_eq_false, or_false, or_true, true_or, false_or, hs]
    · simp (disch := omega) only [up_ne]; exact h2
    · by_cases e : q = s
      · subst e; simp (disch := omega) only [up_ne, up_eq, and_self]
      · simp (disch := omega) only [up_ne]; exact h3 q (by omega)
  · rintro O1 ⟨e1, h1, h2, h3⟩
    refine Exists.elim (lp_i (fun s (O : Mem_) => ex (d + 2) 0 36 [some (vr 0 i 0), some (vr 4 n 0), some (vi (nI s))] [] O) (fun s O' => Ro 0 i O O' ∧ O' 0 i 0 0 = nI 0 ∧ (∀ q, q < 24 → O' 0 i 2 q = oI none ∧ O' 0 i 3 q = nI 0) ∧ ∀ q, q < s → O' 0 i 4 q = oI none ∧ O' 0 i 5 q = oI none) 6 ?_ O1 ⟨h1, h2, h3, fun q hq => by omega⟩) ?_
    · intro s O' hs ⟨h1, h2, h3, h4⟩
      refine ⟨up (up O' 0 i 4 s (oI none)) 0 i 5 s (oI none), ?_, h1.up.up, ?_, fun q hq => ?_, fun q hq => ?_⟩
      · refine (sX0_blank_36 ..).trans ?_
        simp (disch := omega) only [nI_ltI, nI_eq, nI_add, nI_clamp, ib_n, pk_mul, q_and, q_or, q_dn, q_shl, q_shlm, q_p1, if_true, if_false, ↓reduceIte, Option.bind_some, bI_0, bI_1, bI_01, b_or, Nat.not_lt_zero, Nat.zero_add, Bool.false_eq_true, Bool.true_eq_false, or_false, or_true, true_or, false_or, hs]
      · simp (disch := omega) only [up_ne]; exact h2
      · simp (disch := omega) only [up_ne]; exact h3 q hq
      · by_cases e : q = s
        · subst e; simp (disch := omega) only [up_ne, up_eq, and_self]
        · simp (disch := omega) only [up_ne]; exact h4 q (by omega)
    · rintro O2 ⟨e2, h1, h2, h3, h4⟩
      refine Exists.elim (lp_i (fun s (O : Mem_) => ex (d + 2) 0 66 [some (vr 0 i 0), some (vr 4 n 0), some (vi (nI s))] [] O) (fun s O' => Ro 0 i O O' ∧ O' 0 i 0 0 = nI 0 ∧ (∀ k, k < 6 → KM (O' 0 i) k mi0) ∧ ∀ q, q < s → O' 0 i 6 q = nI (2 ^ nM T - 1)) 4 ?_ O2 ⟨h1, h2, fun k hk => ⟨fun s hs => h3 _ (by omega), (h4 k hk).1, (h4 k hk).2⟩, fun q hq => by omega⟩) ?_
      · intro s O' hs ⟨h1, h2, h3, h4⟩
        have hCT : CT (O' 4 n) T := by rw [h1 4 n (Or.inl (by decide))]; exact h
        refine ⟨up O' 0 i 6 s (nI (2 ^ nM T - 1)), ?_, h1.up, ?_, fun k hk => KM.up (by omega) (h3 k hk), fun q hq => ?_⟩
        · refine (sX0_blank_66 ..).trans ?_
          simp (disch := omega) only [nI_ltI, nI_eq, nI_add, nI_clamp, ib_n, pk_mul, q_and, q_or, q_dn, q_shl, q_shlm, q_p1, if_true, if_false, ↓reduceIte, Option.bind_some, bI_0, bI_1, bI_01, b_or, Nat.not_lt_zero, Nat.zero_add, Bool.false_eq_true, Bool.true_eq_false, or_false, or_true, true_or, false_or, hs, m_allMeanings (h := hCT) (hT := hT)]
        · simp (disch := omega) only [up_ne]; exact h2
        · by_cases e : q = s
          · subst e; simp only [up_eq]
          · simp (disch := omega) only [up_ne]; exact h4 q (by omega)
      · rintro O3 ⟨e3, h1, h2, h3, h4⟩
        refine ⟨O3, e1.trans ?_, h1, fun K => ⟨h2, h4, fun k hk _ => h3 k (by omega)⟩⟩
        refine (sX0_blank_7 ..).trans ?_
        simp (disch := omega) only [nI_ltI, nI_eq, nI_add, nI_clamp, ib_n, pk_mul, q_and, q_or, q_dn, q_shl, q_shlm, q_p1, if_true, if_false, ↓reduceIte, Option.bind_some, bI_0, bI_1, bI_01, b_or, Nat.not_lt_zero, Nat.zero_add, Bool.false_eq_true, Bool.true_eq_false, or_false, or_true, true_or, false_or, Nat.lt_irrefl]
        refine e2.trans ?_
        refine (sX0_blank_36 ..).trans ?_
        simp (disch := omega) only [nI_ltI, nI_eq, nI_add, nI_clamp, ib_n, pk_mul, q_and, q_or, q_dn, q_shl, q_shlm, q_p1, if_true, if_false, ↓reduceIte, Option.bind_some, bI_0, bI_1, bI_01, b_or, Nat.not_lt_zero, Nat.zero_add, Bool.false_eq_true, Bool.true_eq_false, or_false, or_true, true_or, false_or, Nat.lt_irrefl]
        refine e3.trans ?_
        refine (sX0_blank_66 ..).trans ?_
        simp (disch := omega) only [nI_ltI, nI_eq, nI_add, nI_clamp, ib_n, pk_mul, q_and, q_or, q_dn, q_shl, q_shlm, q_p1, if_true, if_false, ↓reduceIte, Option.bind_some, bI_0, bI_1, bI_01, b_or, Nat.not_lt_zero, Nat.zero_add, Bool.false_eq_true, Bool.true_eq_false, or_false, or_true, true_or, false_or, Nat.lt_irrefl]
theorem cpy_self (O : Mem_) {c0 n0 p0 c n p len : Nat} (p' j' : Nat) : cpy O c0 n0 p0 c n p 0 0 len c n p' j' = if p' = p ∧ j' < len then O c0 n0 p0 j' else O c n p' j' := by
  unfold cpy
  by_cases h : p' = p ∧ j' < len
  · rw [if_pos ⟨rfl, rfl, h.1, Nat.zero_le _, by omega⟩, if_pos h]; simp
  · rw [if_neg (fun q => h ⟨q.2.2.1, by omega⟩), if_neg h]
theorem Ro.cpy {c0 n0 p0 c n p a b len : Nat} {O O' : Mem_} (h : Ro c n O O') : Ro c n O (cpy O' c0 n0 p0 c n p a b len) := fun c' n' q => (cpy_row q).trans (h c' n' q)
/-- a showing that some kinds see -/
theorem m_see (d : Nat) {K s t sn : Nat} {so : Bool} {M : Md_} (hK : K < 2 ^ 31) (hs : s < nS T) (ht : t < nT T) (h : CT (O 4 n) T) (hT : WT T) (hm : CM (O 0 i) T K sn M) (hw : WMd T M) (hsb : sn < 1000) : ∃ c O', ex (d + 4) 2 0 [some (vr 0 i 0), some (vr 4 n 0), some (vi (nI K)), some (vi (nI s)), some (vi (nI t)), some (vi (bI so))] [] O = some (bI c, O') ∧ Ro 0 i O O' ∧ CM (O' 0 i) T K (sn + 1) (see T sn s t so M) ∧ (c = false → (see T sn s t so M).1 = M.1 ∧ ∀ k, k < nK T → K.testBit k = true → (see T sn s t so M).2 k = M.2 k) := by
  obtain ⟨c, O', h1, h2, h3, h4, h5, h6⟩ := m_witness (O := O) (i := i) (n := n) d (so := so) hK hs ht (hw.f hT) hm.2.1 h hT hm.2.2 hw.2 hm.1 hsb
  exact ⟨c, O', h1, h2, ⟨h3, h4, h5⟩, h6⟩
end
