/-! THE STATE: what class and model hold alike; a call; the law's loop. -/
section
/-- showings, the kinds left, their sound: how many, which; the same of theirs -/
abbrev Sc_ : Type := Nat × (Nat → Nat × Nat × Bool) × Nat × Nat × (Nat → Nat × Bool)
/-- what is told; the scene; images; the tape; the fault; sheets (lane, size, cells); torn -/
abbrev A_ : Type := Td_ × Sc_ × (Nat → Option Sc_) × (Nat × (Nat → Nat)) × Nat × (Nat → Option (Nat × Nat × (Nat → Int32))) × Nat
def WSc (T : Td_) (c : Sc_) : Prop := c.1 ≤ 24 ∧ (∀ j, j < c.1 → (c.2.1 j).1 < nS T ∧ (c.2.1 j).2.1 < nT T) ∧ c.2.2.1 < 2 ^ nK T ∧ c.2.2.2.1 ≤ 12 ∧ ∀ j, j < c.2.2.2.1 → (c.2.2.2.2 j).1 < nT T
def WA (A : A_) : Prop := WT A.1 ∧ WSc A.1 A.2.1 ∧ (∀ i c, A.2.2.1 i = some c → WSc A.1 c) ∧ (A.2.2.2.1.1 ≤ 400 ∧ ∀ j, A.2.2.2.1.2 j < 256) ∧ A.2.2.2.2.1 < 10 ∧ (∀ k x, A.2.2.2.2.2.1 k = some x → x.1 < 3 ∧ x.2.1 ≤ 40) ∧ A.2.2.2.2.2.2 < 10
/-- the class's scene -/
def CS (R : Nat → Nat → Int32) (c : Sc_) : Prop := R 0 0 = nI c.1 ∧ (∀ j, j < c.1 → R 2 j = nI (c.2.1 j).1 ∧ R 3 j = nI (c.2.1 j).2.1 ∧ R 4 j = bI (c.2.1 j).2.2) ∧ R 0 4 = nI c.2.2.1 ∧ R 0 5 = nI c.2.2.2.1 ∧ ∀ j, j < c.2.2.2.1 → R 7 j = nI (c.2.2.2.2 j).1 ∧ R 8 j = bI (c.2.2.2.2 j).2
/-- a scene's rows of truths hold truths -/
def CB (R : Nat → Nat → Int32) : Prop := (∀ j, j < 24 → R 4 j = nI 0 ∨ R 4 j = nI 1) ∧ ∀ j, j < 12 → R 8 j = nI 0 ∨ R 8 j = nI 1
def CIm (R : Nat → Nat → Int32) (o : Option Sc_) : Prop := match o with
  | none => R 0 8 = nI 0
  | some c => R 0 8 = nI 1 ∧ CS R c
def CTp (R : Nat → Nat → Int32) (tp : Nat × (Nat → Nat)) : Prop := R 0 1 = nI tp.1 ∧ ∀ j, j < tp.1 → R 1 j = nI (tp.2 j)
def CSh (R : Nat → Nat → Int32) (sh : Nat → Option (Nat × Nat × (Nat → Int32))) : Prop := ∀ k, k < 4 → match sh k with
  | none => R 1 k = oI none
  | some x => R 1 k = nI x.2.1 ∧ R 2 k = nI x.1 ∧ ∀ i, i < 40 → R (4 + k) i = x.2.2 i
/-- which of the two is told -/
def CW (R : Nat → Nat → Int32) (w : Nat) : Prop := (w = 0 ∧ sel (R 0 1) = 0 ∧ sel (R 0 2) = 1) ∨ (w = 1 ∧ sel (R 0 1) = 1 ∧ sel (R 0 2) = 0)
/-- the class holds the state -/
def CI (O : Mem_) (A : A_) : Prop := ∃ w, CW (O 6 0) w ∧ O 6 0 0 9 = nI A.2.2.2.2.2.2 ∧ CT (O 4 w) A.1 ∧ CS (O 1 0) A.2.1 ∧ (∀ i, i < 2 → CIm (O 1 (1 + i)) (A.2.2.1 i)) ∧ (∀ i, i < 3 → CB (O 1 i)) ∧ CM (O 0 0) A.1 (2 ^ nK A.1 - 1) A.2.1.1 (mds A.1 A.2.1.2.1 A.2.1.1) ∧ CTp (O 3 0) A.2.2.2.1 ∧ O 3 0 0 2 = nI A.2.2.2.2.1 ∧ CSh (O 2 0) A.2.2.2.2.2.1
/-- where only rows for trying are changed -/
theorem CI.of {O O' : Mem_} {A : A_} (h : CI O A) (e0 : O' 0 0 = O 0 0) (e1 : O' 1 = O 1) (e2 : O' 2 = O 2) (e3 : O' 3 = O 3) (e4 : O' 4 = O 4) (e6 : O' 6 = O 6) : CI O' A := by
  obtain ⟨w, h⟩ := h
  refine ⟨w, ?_⟩
  rw [e0, e1, e2, e3, e4, e6]
  exact h
end
