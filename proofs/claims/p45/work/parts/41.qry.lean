/-! CALLS THAT ONLY ASK. -/
section
theorem CW.sel {R : Nat → Nat → Int32} {w : Nat} (h : CW R w) : sel (R 0 1) = w := by
  rcases h with h | h
  · rw [h.1, h.2.1]
  · rw [h.1, h.2.1]
theorem hsI_ne {x : Int32} {n : Nat} (hn : n < 2 ^ 31) (h : hsI x n = false) {c : Nat} (hc : c < n) : (x = nI c) ↔ False := by
  refine ⟨fun e => ?_, False.elim⟩
  subst e
  rw [hsI_n (by omega) hn, decide_eq_true hc] at h
  cases h
theorem bool_ne {b : Bool} (h : ¬ b = true) : b = false := by cases b <;> simp_all
theorem bsel (b : Bool) : (if bI b = nI 0 then nI 0 else nI 1) = bI b := by cases b <;> rfl
end
