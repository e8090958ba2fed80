/-! THE START: what the constructors leave; the law's run. -/
theorem CI_0 {O : Mem_} {L : Nat} {xs : Nat → Int32} (h : ∀ c, c ≠ 7 → O c = mS L xs c) : CI O A0_ := by
  refine ⟨0, ?_, ?_, ⟨⟨?_, ?_, ?_, ?_⟩, fun t ht => absurd ht (Nat.not_lt_zero t), fun t ht => absurd ht (Nat.not_lt_zero t), fun t ht => absurd ht (Nat.not_lt_zero t), fun t ht => absurd ht (Nat.not_lt_zero t)⟩, ⟨?_, fun j hj => absurd hj (Nat.not_lt_zero j), ?_, ?_, fun j hj => absurd hj (Nat.not_lt_zero j)⟩, fun i hi => ?_, fun i hi => ⟨fun j hj => ?_, fun j hj => ?_⟩, ⟨?_, fun s hs => ?_, fun k hk => absurd hk (Nat.not_lt_zero k)⟩, ⟨?_, fun j hj => absurd hj (Nat.not_lt_zero j)⟩, ?_, fun k hk => ?_⟩
  · unfold CW
    rw [h 6 (by decide)]
    exact Or.inl ⟨rfl, rfl, rfl⟩
  · rw [h 6 (by decide)]; rfl
  · rw [h 4 (by decide)]; rfl
  · rw [h 4 (by decide)]; rfl
  · rw [h 4 (by decide)]; rfl
  · rw [h 4 (by decide)]; rfl
  · rw [h 1 (by decide)]; rfl
  · rw [h 1 (by decide)]; rfl
  · rw [h 1 (by decide)]; rfl
  · show O 1 (1 + i) 0 8 = nI 0
    rw [h 1 (by decide)]; rfl
  · rw [h 1 (by decide)]; exact Or.inl rfl
  · rw [h 1 (by decide)]; exact Or.inl rfl
  · rw [h 0 (by decide)]; rfl
  · rw [h 0 (by decide)]; rfl
  · rw [h 3 (by decide)]; rfl
  · rw [h 3 (by decide)]; rfl
  · show O 2 0 1 k = oI none
    rw [h 2 (by decide)]
    show szF 4 k = -4
    unfold szF
    rw [if_pos hk]
theorem pure_ok : Pure_ := fun L xs hL => by
  have h31 : L < 2 ^ 31 := by omega
  have e0 : ∀ i, mS L xs 7 0 6 i = 0 := fun i => by
    unfold mS mIz
    rw [if_neg (by omega), if_neg (by omega), if_neg (by omega)]
  have z0 : ∀ j, rdL (mS L xs) 7 0 6 j = 0 := fun j => by
    unfold rdL
    rw [e0, e0]
    decide
  have ht : TQ (mS L xs) [] := ⟨⟨(0, fun _ => 0), WA_0, CI_0 (fun _ _ => rfl), rfl, fun j hj => absurd hj (Nat.not_lt_zero j), by rw [z0]; decide, by rw [z0]; decide, z0 2⟩, fun x hx => absurd hx List.not_mem_nil⟩
  obtain ⟨T, g, O1, hB, e1, w1, c1, v1, la⟩ := told_ok h31 ht rfl
  have e2 := k_told w1 c1 hB la
  have hz : ∀ c, c ≠ 7 → zer (zer (zer O1 7) 8) 9 c = O1 c := fun c z => by
    funext n p
    rw [zer_ne (fun y => z y.1), zer_ne (fun y => z y.1), zer_ne (fun y => z y.1)]
  have hl : LP_ L (tdA T g) (nI 0) (-1) (zer (zer (zer O1 7) 8) 9) := by
    refine ⟨⟨w1, c1.of7 hz, hB, la.ofR (fun p hp => ?_), ?_, rfl, rfl, fun c hc => by cases hc⟩, Nat.zero_le _, rfl, fun j hj => absurd hj (Nat.not_lt_zero j)⟩
    · rw [zer_ne (by omega), zer_ne (by omega), zer_ne (by omega)]
    · rw [hz 8 (by decide)]; exact v1
  obtain ⟨O3, e3⟩ := k_main h31 hl
  exact ⟨O1, O1, O3, e1, e2, e3⟩
