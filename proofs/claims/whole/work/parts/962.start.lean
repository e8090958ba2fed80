/-! THE START: what both constructors leave; the claim in numbers. -/
theorem CI_0 {O : Mem_} {L : Nat} {xs : Nat → Int32} (h : ∀ c, c ≠ 7 → O c = mS L xs c) : CI O A0_ := by
  refine ⟨0, ?_, ?_, ⟨⟨?_, ?_, ?_, ?_⟩, fun t ht => absurd ht (Nat.not_lt_zero t), fun t ht => absurd ht (Nat.not_lt_zero t), fun t ht => absurd ht (Nat.not_lt_zero t), fun t ht => absurd ht (Nat.not_lt_zero t)⟩, ⟨?_, fun j hj => absurd hj (Nat.not_lt_zero j), ?_, ?_, fun j hj => absurd hj (Nat.not_lt_zero j)⟩, fun i hi => ?_, fun i hi => ⟨fun j hj => ?_, fun j hj => ?_⟩, ⟨?_, fun s hs => ?_, fun k hk => absurd hk (Nat.not_lt_zero k)⟩, ⟨?_, fun j hj => absurd hj (Nat.not_lt_zero j)⟩, ?_, fun k hk => ?_⟩
  · unfold CW
    rw [h 6 (by decide)]
    exact Or.inl ⟨rfl, rfl, rfl⟩
  · rw [h 6 (by decide)]; rfl
  · rw [h 4 (by decide)]; rfl
  · rw [h 4 (by decide)]; rfl
  · rw [h 4 (by decide)]; rfl
  · rw [h 4 (by decide)]; rfl
  · rw [h 1 (by decide)]; rfl
  · rw [h 1 (by decide)]; rfl
  · rw [h 1 (by decide)]; rfl
  · show O 1 (1 + i) 0 8 = nI 0
    rw [h 1 (by decide)]; rfl
  · rw [h 1 (by decide)]; exact Or.inl rfl
  · rw [h 1 (by decide)]; exact Or.inl rfl
  · rw [h 0 (by decide)]; rfl
  · rw [h 0 (by decide)]; rfl
  · rw [h 3 (by decide)]; rfl
  · rw [h 3 (by decide)]; rfl
  · show O 2 0 1 k = oI none
    rw [h 2 (by decide)]
    show szF 4 k = -4
    unfold szF
    rw [if_pos hk]
/-- a step of the model's constructor's loop -/
theorem ini_loop (n i : Nat) (O : Mem_) (hi : i < 4) : rn_ swT_ (cl_ (ex 20)) tIni [] (n + 10) 210 [some (vr 7 0 0), some (vi (nI i))] [] O = rn_ swT_ (cl_ (ex 20)) tIni [] n 210 [some (vr 7 0 0), some (vi (nI (i + 1)))] [] (up O 7 0 42 i (-4)) := by
  have e : rn_ swT_ (cl_ (ex 20)) tIni [] (n + 10) 210 [some (vr 7 0 0), some (vi (nI i))] [] O = if nI i < 4 then (if ib (nI i) 4 then rn_ swT_ (cl_ (ex 20)) tIni [] n 210 [some (vr 7 0 0), some (vi (nI i + 1))] [] (up O 7 0 42 (nI i).toNatClampNeg (-4)) else none) else rn_ swT_ (cl_ (ex 20)) tIni [] (n + 7) 229 [some (vr 7 0 0), some (vi (nI i))] [] O := rfl
  have h4 : (4 : Int32) = nI 4 := by decide
  rw [e, h4, if_pos (nI_lt hi (by decide)), if_pos (ib_n hi (by decide)), nI_clamp (by omega), nI_11, nI_add]
theorem ini_in (n : Nat) (O : Mem_) : rn_ swT_ (cl_ (ex 20)) tIni [] (n + 2) 208 [some (vr 7 0 0), none] [] O = rn_ swT_ (cl_ (ex 20)) tIni [] n 210 [some (vr 7 0 0), some (vi (nI 0))] [] O := rfl
theorem ini_out (n : Nat) (O : Mem_) : rn_ swT_ (cl_ (ex 20)) tIni [] (n + 8) 210 [some (vr 7 0 0), some (vi (nI 4))] [] O = (ex 20 124 0 [some (vr 7 0 0)] [] O).bind fun r0 => (ex 20 125 0 [some (vr 7 0 0)] [] r0.2).bind fun r1 => some (0, r1.2) := rfl
theorem pure_ok : Pure_ := fun L xs hL => by
  obtain ⟨O1, q1⟩ : ∃ O1, O1 = up (up (up (up (mS L xs) 7 0 42 0 (-4)) 7 0 42 1 (-4)) 7 0 42 2 (-4)) 7 0 42 3 (-4) := ⟨_, rfl⟩
  obtain ⟨O2, q2⟩ : ∃ O2, O2 = up (up (up (up O1 7 0 0 9 (nI 0)) 7 0 0 11 (nI 0)) 7 0 0 14 (nI 0)) 7 0 0 16 (nI 0) := ⟨_, rfl⟩
  have d2 : MD (O2 7 0) td0 := by
    rw [q2]
    exact MD_0 ⟨by simp (disch := omega) only [up_ne, up_eq], by simp (disch := omega) only [up_ne, up_eq], by simp (disch := omega) only [up_ne, up_eq], by simp (disch := omega) only [up_ne, up_eq]⟩
  obtain ⟨O3, e3, f3, mT3, mS3, mI3, mN3⟩ := n_keepDraft 12 d2 WT_td0
  have e3 : ex 20 125 0 [some (vr 7 0 0)] [] O2 = some (nI 0, O3) := e3
  have e2 : ex 20 124 0 [some (vr 7 0 0)] [] O1 = some (nI 0, O2) := by rw [q2]; exact sX7_firstDraft_0 19 O1
  have e1 : rn_ swT_ (cl_ (ex 20)) tIni [] (8 + 10 + 10 + 10 + 10 + 2) 208 [some (vr 7 0 0), none] [] (mS L xs) = some (0, O3) := by
    rw [ini_in, ini_loop _ 0 _ (by decide), ini_loop _ 1 _ (by decide), ini_loop _ 2 _ (by decide), ini_loop _ 3 _ (by decide), ← q1]
    refine (ini_out 0 O1).trans ?_
    rw [e2]
    simp only [Option.bind_some]
    rw [e3]
    rfl
  have r2 : Ro 7 0 (mS L xs) O2 := by rw [q2, q1]; exact Ro.rfl.up.up.up.up.up.up.up.up
  have out : ∀ c, c ≠ 7 → O3 c = mS L xs c := fun c z => funext fun q => (f3.1 c q (Or.inl z)).trans (r2 c q (Or.inl z))
  have g : ∀ p j, ¬ (p = 42 ∧ j < 4) → (p = 0 → 16 < j) → O2 7 0 p j = mS L xs 7 0 p j := fun p j a b => by
    rw [q2, q1, up_ne (by omega), up_ne (by omega), up_ne (by omega), up_ne (by omega), up_ne (by omega), up_ne (by omega), up_ne (by omega), up_ne (by omega)]
  have g3 : ∀ j, 34 < j ∨ (16 < j ∧ j < 28) → O3 7 0 0 j = mS L xs 7 0 0 j := fun j h => (f3.2 0 j (by decide) (by decide) (by decide) (by decide) (by decide) (by decide) (by decide) (by decide) (by omega)).trans (g 0 j (by omega) (by omega))
  have hm : MI (O3 7 0) A0_ := by
    refine ⟨mT3, mS3, mI3, mN3, ⟨?_, fun j hj => absurd hj (Nat.not_lt_zero j)⟩, ?_, fun k hk => ?_, ?_⟩
    · rw [g3 _ (by decide)]; rfl
    · rw [g3 _ (by decide)]; rfl
    · show O3 7 0 42 k = oI none
      rw [f3.2 42 k (by decide) (by decide) (by decide) (by decide) (by decide) (by decide) (by decide) (by decide) (by omega), q2, up_ne (by omega), up_ne (by omega), up_ne (by omega), up_ne (by omega), q1]
      rcases (by omega : k = 0 ∨ k = 1 ∨ k = 2 ∨ k = 3) with rfl | rfl | rfl | rfl
      · rw [up_ne (by omega), up_ne (by omega), up_ne (by omega), up_eq]; rfl
      · rw [up_ne (by omega), up_ne (by omega), up_eq]; rfl
      · rw [up_ne (by omega), up_eq]; rfl
      · rw [up_eq]; rfl
    · rw [g3 _ (by decide)]; rfl
  obtain ⟨O4, e4⟩ := run_ok (O := O3) hL (by rw [out 8 (by decide)]; rfl) WA_0 (CI_0 out) hm
  exact ⟨_, O3, O4, e1, e4⟩
