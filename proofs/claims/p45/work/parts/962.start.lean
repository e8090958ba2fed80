/-! THE START: what the constructors leave; the law's run. -/
theorem CI_0 {O : Mem_} {L : Nat} {xs : Nat → Int32} (h : ∀ c, c ≠ 7 → O c = mS L xs c) : CI O A0_ := by
  refine ⟨0, ?_, ?_, ⟨⟨?_, ?_, ?_, ?_⟩, fun t ht => absurd ht (Nat.not_lt_zero t), fun t ht => absurd ht (Nat.not_lt_zero t), fun t ht => absurd ht (Nat.not_lt_zero t), fun t ht => absurd ht (Nat.not_lt_zero t)⟩, ⟨?_, fun j hj => absurd hj (Nat.not_lt_zero j), ?_, ?_, fun j hj => absurd hj (Nat.not_lt_zero j)⟩, fun i hi => ?_, fun i hi => ⟨fun j hj => ?_, fun j hj => ?_⟩, ⟨?_, fun s hs => ?_, fun k hk => absurd hk (Nat.not_lt_zero k)⟩, ⟨?_, fun j hj => absurd hj (Nat.not_lt_zero j)⟩, ?_, fun k hk => ?_⟩
  · unfold CW
    rw [h 6 (by decide)]
    exact Or.inl ⟨rfl, rfl, rfl⟩
  · rw [h 6 (by decide)]; rfl
  · rw [h 4 (by decide)]; rfl
  · rw [h 4 (by decide)]; rfl
  · rw [h 4 (by decide)]; rfl
  · rw [h 4 (by decide)]; rfl
  · rw [h 1 (by decide)]; rfl
  · rw [h 1 (by decide)]; rfl
  · rw [h 1 (by decide)]; rfl
  · show O 1 (1 + i) 0 8 = nI 0
    rw [h 1 (by decide)]; rfl
  · rw [h 1 (by decide)]; exact Or.inl rfl
  · rw [h 1 (by decide)]; exact Or.inl rfl
  · rw [h 0 (by decide)]; rfl
  · rw [h 0 (by decide)]; rfl
  · rw [h 3 (by decide)]; rfl
  · rw [h 3 (by decide)]; rfl
  · show O 2 0 1 k = oI none
    rw [h 2 (by decide)]
    show szF 4 k = -4
    unfold szF
    rw [if_pos hk]
theorem WA_00 : WA A0_ := by
  have hT : WT td0 := ⟨by decide, by decide, by decide, by decide, fun t => (by decide : (0 : Nat) < 256), fun m => ⟨(by decide : (0 : Nat) < 256), (by decide : (0 : Nat) < 256), rfl⟩, fun s hs => absurd hs (Nat.not_lt_zero s), fun k => ⟨(by decide : (0 : Nat) < 4), (by decide : (0 : Nat) < 256), (by decide : (0 : Nat) ≤ 9)⟩, fun k t h => by cases h⟩
  exact ⟨hT, sc0_ok, fun i c h => by cases h, ⟨Nat.zero_le _, fun j => (by decide : (0 : Nat) < 256)⟩, by decide, fun k x h => by cases h, by decide⟩
theorem pure_ok : Pure_ := fun L xs hL => by
  have h31 : L < 2 ^ 31 := by omega
  have ht : TQ (mS L xs) [] := ⟨⟨(0, fun _ => 0), WA_00, CI_0 (fun _ _ => rfl), rfl, fun j hj => absurd hj (Nat.not_lt_zero j), rfl, rfl, rfl⟩, fun x hx => absurd hx List.not_mem_nil⟩
  obtain ⟨T, g, O1, hB, e1, w1, c1, v1, la⟩ := told_ok h31 ht rfl
  have e2 := k_told w1 c1 hB la
  have hz : ∀ c, c ≠ 7 → zer (zer (zer O1 7) 8) 9 c = O1 c := fun c z => by
    funext n p
    rw [zer_ne (fun y => z y.1), zer_ne (fun y => z y.1), zer_ne (fun y => z y.1)]
  have hl : LP_ L (tdA T g) (nI 0) (-1) (zer (zer (zer O1 7) 8) 9) := by
    refine ⟨⟨w1, c1.of7 hz, hB, la.ofR (fun p hp => ?_), ?_, rfl, rfl, fun c hc => by cases hc⟩, Nat.zero_le _, rfl, fun j hj => absurd hj (Nat.not_lt_zero j)⟩
    · rw [zer_ne (by omega), zer_ne (by omega), zer_ne (by omega)]
    · rw [hz 8 (by decide)]; exact v1
  obtain ⟨O3, e3⟩ := k_main h31 hl
  exact ⟨O1, O1, O3, e1, e2, e3⟩
