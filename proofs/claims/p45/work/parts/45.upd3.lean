/-! CALLS THAT CHANGE: heard, keep, back. -/
section
theorem bok_of {O : Mem_} {c n p k : Nat} (h : ∀ j, j < k → O c n p j = nI 0 ∨ O c n p j = nI 1) : bok O c n p 0 k = true := by
  unfold bok
  rw [List.all_eq_true]
  intro j hj
  rw [Nat.zero_add]
  rcases h j (List.mem_range.mp hj) with e | e
  · rw [e]; rfl
  · rw [e]; rfl
/-- a row of truths of another scene, one by one -/
theorem m_sLoop4 (d : Nat) {O : Mem_} {i j : Nat} (hij : i ≠ j) (hB : CB (O 1 j)) : ∃ O', ex (d + 1) 14 71 [some (vr 1 i 0), some (vr 1 j 0), some (vi (nI 0))] [] O = ex (d + 1) 14 97 [some (vr 1 i 0), some (vr 1 j 0), some (vi (nI 0))] [] O' ∧ Ro 1 i O O' ∧ ∀ p q, O' 1 i p q = if p = 4 ∧ q < 24 then O 1 j 4 q else O 1 i p q := by
  refine Exists.elim (lp_i (fun k (O : Mem_) => ex (d + 1) 14 71 [some (vr 1 i 0), some (vr 1 j 0), some (vi (nI k))] [] O) (fun k O' => Ro 1 i O O' ∧ ∀ p q, O' 1 i p q = if p = 4 ∧ q < k then O 1 j 4 q else O 1 i p q) 24 ?_ O ⟨Ro.rfl, fun p q => by rw [if_neg (by omega)]⟩) ?_
  · intro k O' hk ⟨h1, h2⟩
    have hj : O' 1 j = O 1 j := h1 1 j (Or.inr (by omega))
    refine ⟨up O' 1 i 4 k (O 1 j 4 k), ?_, h1.up, fun p q => ?_⟩
    · refine (sX1_become_71 ..).trans ?_
      simp (disch := omega) only [nI_ltI, nI_eq, nI_add, nI_clamp, ib_n, pk_mul, q_and, q_or, q_dn, q_shl, q_shlm, q_p1, if_true, if_false, ↓reduceIte, Option.bind_some, bI_0, bI_1, bI_01, b_or, Nat.not_lt_zero, Nat.zero_add, Bool.false_eq_true, Bool.true_eq_false, or_false, or_true, true_or, false_or, hk, hj]
      rw [if_pos (hB.1 k hk)]
    · rw [up_self, h2]
      by_cases e : p = 4 ∧ q = k
      · rw [if_pos e, if_pos (by omega), e.2]
      · rw [if_neg e]
        by_cases e2 : p = 4 ∧ q < k
        · rw [if_pos e2, if_pos (by omega)]
        · rw [if_neg e2, if_neg (by omega)]
  · rintro O' ⟨e, h1, h2⟩
    refine ⟨O', e.trans ?_, h1, h2⟩
    refine (sX1_become_71 ..).trans ?_
    simp (disch := omega) only [nI_ltI, nI_eq, nI_add, nI_clamp, ib_n, pk_mul, q_and, q_or, q_dn, q_shl, q_shlm, q_p1, if_true, if_false, ↓reduceIte, Option.bind_some, bI_0, bI_1, bI_01, b_or, Nat.not_lt_zero, Nat.zero_add, Bool.false_eq_true, Bool.true_eq_false, or_false, or_true, true_or, false_or, Nat.lt_irrefl]
theorem m_sLoop8 (d : Nat) {O : Mem_} {i j : Nat} (hij : i ≠ j) (hB : CB (O 1 j)) : ∃ O', ex (d + 1) 14 97 [some (vr 1 i 0), some (vr 1 j 0), some (vi (nI 0))] [] O = some (nI 0, O') ∧ Ro 1 i O O' ∧ ∀ p q, O' 1 i p q = if p = 8 ∧ q < 12 then O 1 j 8 q else O 1 i p q := by
  refine Exists.elim (lp_i (fun k (O : Mem_) => ex (d + 1) 14 97 [some (vr 1 i 0), some (vr 1 j 0), some (vi (nI k))] [] O) (fun k O' => Ro 1 i O O' ∧ ∀ p q, O' 1 i p q = if p = 8 ∧ q < k then O 1 j 8 q else O 1 i p q) 12 ?_ O ⟨Ro.rfl, fun p q => by rw [if_neg (by omega)]⟩) ?_
  · intro k O' hk ⟨h1, h2⟩
    have hj : O' 1 j = O 1 j := h1 1 j (Or.inr (by omega))
    refine ⟨up O' 1 i 8 k (O 1 j 8 k), ?_, h1.up, fun p q => ?_⟩
    · refine (sX1_become_97 ..).trans ?_
      simp (disch := omega) only [nI_ltI, nI_eq, nI_add, nI_clamp, ib_n, pk_mul, q_and, q_or, q_dn, q_shl, q_shlm, q_p1, if_true, if_false, ↓reduceIte, Option.bind_some, bI_0, bI_1, bI_01, b_or, Nat.not_lt_zero, Nat.zero_add, Bool.false_eq_true, Bool.true_eq_false, or_false, or_true, true_or, false_or, hk, hj]
      rw [if_pos (hB.2 k hk)]
    · rw [up_self, h2]
      by_cases e : p = 8 ∧ q = k
      · rw [if_pos e, if_pos (by omega), e.2]
      · rw [if_neg e]
        by_cases e2 : p = 8 ∧ q < k
        · rw [if_pos e2, if_pos (by omega)]
        · rw [if_neg e2, if_neg (by omega)]
  · rintro O' ⟨e, h1, h2⟩
    refine ⟨O', e.trans ?_, h1, h2⟩
    refine (sX1_become_97 ..).trans ?_
    simp (disch := omega) only [nI_ltI, nI_eq, nI_add, nI_clamp, ib_n, pk_mul, q_and, q_or, q_dn, q_shl, q_shlm, q_p1, if_true, if_false, ↓reduceIte, Option.bind_some, bI_0, bI_1, bI_01, b_or, Nat.not_lt_zero, Nat.zero_add, Bool.false_eq_true, Bool.true_eq_false, or_false, or_true, true_or, false_or, Nat.lt_irrefl]
/-- a scene becomes another -/
theorem m_becomeS (d : Nat) {O : Mem_} {i j : Nat} {c : Sc_} (hij : i ≠ j) (wc : c.1 ≤ 24 ∧ c.2.2.2.1 ≤ 12) (hS : CS (O 1 j) c) (hB : CB (O 1 j)) : ∃ O', ex (d + 1) 14 0 [some (vr 1 i 0), some (vr 1 j 0)] [] O = some (nI 0, O') ∧ Ro 1 i O O' ∧ CS (O' 1 i) c ∧ CB (O' 1 i) ∧ O' 1 i 0 8 = O 1 i 0 8 := by
  have r : ∀ (O : Mem_) (p j' : Nat) (v : Int32), up O 1 i p j' v 1 j = O 1 j := fun O p j' v => up_row (by omega)
  have r2 : ∀ (O : Mem_) (p l : Nat), cpy O 1 j p 1 i p 0 0 l 1 j = O 1 j := fun O p l => cpy_row (by omega)
  rw [sX1_become_0]
  generalize hU : cpy _ 1 j 7 1 i 7 0 0 12 = U
  have hUj : U 1 j = O 1 j := by rw [← hU]; simp only [r, r2]
  have hUR : Ro 1 i O U := by rw [← hU]; exact (((((Ro.rfl.up).up).up).cpy).cpy).cpy
  have hUi : ∀ p q, U 1 i p q = if p = 7 ∧ q < 12 then O 1 j 7 q else if p = 3 ∧ q < 24 then O 1 j 3 q else if p = 2 ∧ q < 24 then O 1 j 2 q else if p = 0 ∧ q = 5 then O 1 j 0 5 else if p = 0 ∧ q = 4 then O 1 j 0 4 else if p = 0 ∧ q = 0 then O 1 j 0 0 else O 1 i p q := fun p q => by
    rw [← hU]; simp only [cpy_self, r, r2, up_self]
  obtain ⟨V, e1, hV, hVi⟩ := m_sLoop4 d hij (O := U) (by rw [hUj]; exact hB)
  have hVj : V 1 j = O 1 j := (hV 1 j (Or.inr (by omega))).trans hUj
  obtain ⟨W, e2, hW, hWi⟩ := m_sLoop8 d hij (O := V) (by rw [hVj]; exact hB)
  have hq : ∀ p q, W 1 i p q = if p = 8 ∧ q < 12 then O 1 j 8 q else if p = 4 ∧ q < 24 then O 1 j 4 q else if p = 7 ∧ q < 12 then O 1 j 7 q else if p = 3 ∧ q < 24 then O 1 j 3 q else if p = 2 ∧ q < 24 then O 1 j 2 q else if p = 0 ∧ q = 5 then O 1 j 0 5 else if p = 0 ∧ q = 4 then O 1 j 0 4 else if p = 0 ∧ q = 0 then O 1 j 0 0 else O 1 i p q := fun p q => by
    rw [hWi, hVi, hUi, hVj, hUj]
  refine ⟨W, e1.trans e2, (hUR.trans hV).trans hW, ?_, ?_, ?_⟩
  · refine ⟨?_, fun q hq' => ?_, ?_, ?_, fun q hq' => ?_⟩
    · rw [hq]; simp [hS.1]
    · have h24 : q < 24 := by omega
      have := hS.2.1 q hq'
      rw [hq, hq, hq]; simp [h24, this.1, this.2.1, this.2.2]
    · rw [hq]; simp [hS.2.2.1]
    · rw [hq]; simp [hS.2.2.2.1]
    · have h12 : q < 12 := by omega
      have := hS.2.2.2.2 q hq'
      rw [hq, hq]; simp [h12, this.1, this.2]
  · refine ⟨fun q hq' => ?_, fun q hq' => ?_⟩
    · rw [hq]; simp only [hq']; simpa using hB.1 q hq'
    · rw [hq]; simp only [hq']; simpa using hB.2 q hq'
  · rw [hq]; simp
end
