/-! CALLS THAT CHANGE THE SCENE, 2: undo, clear, theirs, hush, heard. -/
section
theorem m_rethink (d : Nat) {O O1 : Mem_} {A : A_} {c : Sc_} (hc : CI O A) (wT : WT A.1) (wc : WSc A.1 c) (e : ∀ c, c ≠ 1 → O1 c = O c) (ei : ∀ i, i ≠ 0 → O1 1 i = O 1 i) (hS : CS (O1 1 0) c) (hB : CB (O1 1 0)) : ∃ O2, ex (d + 5) 112 0 [some (vr 6 0 0)] [] O1 = some (nI 0, O2) ∧ CI O2 (A.1, c, A.2.2) ∧ O2 7 = O 7 ∧ O2 8 = O 8 ∧ O2 1 0 = O1 1 0 := by
  have hc' := hc
  obtain ⟨w, cw, c9, hT, -, hI, -, -, hP, hF, hSh⟩ := hc
  obtain ⟨O2, e2, r2, m2⟩ := m_thinkAgain (O := O1) d (w := w) (by rw [e 6 (by decide)]; exact cw.sel) (by rw [e 4 (by decide)]; exact hT) wT hS wc
  have rr : ∀ c, c ≠ 0 → O2 c = O1 c := fun c z => funext fun n => r2 c n (Or.inl z)
  refine ⟨O2, e2, hc'.scene c (fun i hi => ?_) ?_ ?_ ?_ ?_ ?_ ?_ m2, ?_, ?_, ?_⟩
  · rw [rr 1 (by decide), ei i hi]
  · rw [rr 2 (by decide), e 2 (by decide)]
  · rw [rr 3 (by decide), e 3 (by decide)]
  · rw [rr 4 (by decide), e 4 (by decide)]
  · rw [rr 6 (by decide), e 6 (by decide)]
  · rw [rr 1 (by decide)]; exact hS
  · rw [rr 1 (by decide)]; exact hB
  · rw [rr 7 (by decide), e 7 (by decide)]
  · rw [rr 8 (by decide), e 8 (by decide)]
  · rw [rr 1 (by decide)]
/-- only left and theirs are changed -/
theorem CI.lt {O O' : Mem_} {A : A_} (l : Nat) (z : Nat × (Nat → Nat × Bool)) (h : CI O A) (e : ∀ c, c ≠ 1 → O' c = O c) (ei : ∀ i, i ≠ 0 → O' 1 i = O 1 i) (hS : CS (O' 1 0) (A.2.1.1, A.2.1.2.1, l, z)) (hB : CB (O' 1 0)) : CI O' (A.1, (A.2.1.1, A.2.1.2.1, l, z), A.2.2) := by
  have hM : CM (O 0 0) A.1 (2 ^ nK A.1 - 1) A.2.1.1 (mds A.1 A.2.1.2.1 A.2.1.1) := by
    obtain ⟨w, -, -, -, -, -, -, hM, -⟩ := h
    exact hM
  exact h.scene _ ei (e 2 (by decide)) (e 3 (by decide)) (e 4 (by decide)) (e 6 (by decide)) hS hB (by rw [e 0 (by decide)]; exact hM)
end
