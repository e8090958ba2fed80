/-! THE LAW'S EVENTS. -/
section
/-- a row of the law's alone is changed -/
def FrP (p0 : Nat) (O O' : Mem_) : Prop := (∀ c, c ≠ 7 → O' c = O c) ∧ ∀ p, p ≠ p0 → O' 7 0 p = O 7 0 p
theorem FrP.rf {p0 : Nat} {O : Mem_} : FrP p0 O O := ⟨fun _ _ => rfl, fun _ _ => rfl⟩
theorem FrP.u {p0 : Nat} {O O' : Mem_} {j : Nat} {v : Int32} (h : FrP p0 O O') : FrP p0 O (up O' 7 0 p0 j v) := ⟨fun c z => (funext fun q => up_row (Or.inl z)).trans (h.1 c z), fun p z => (funext fun q => up_ne (by omega)).trans (h.2 p z)⟩
theorem LA.ofR {T : Td_} {R R' : Nat → Nat → Int32} (h : LA T R) (f : ∀ p, p < 6 → R' p = R p) : LA T R' := by
  unfold LA Mn at h ⊢
  rw [f 1 (by decide), f 2 (by decide), f 3 (by decide), f 4 (by decide), f 5 (by decide)]
  exact h
theorem LA.ofP {T : Td_} {p0 : Nat} {O O' : Mem_} (h : LA T (O 7 0)) (hp : 6 < p0) (f : FrP p0 O O') : LA T (O' 7 0) := h.ofR fun p hp6 => f.2 p (by omega)
/-- the image's showings -/
def S9 (R : Nat → Nat → Int32) (f : Nat → Nat × Nat × Bool) (n : Nat) : Prop := ∀ j, j < n → R 9 (3 * j) = nI (f j).1 ∧ R 9 (3 * j + 1) = nI (f j).2.1 ∧ R 9 (3 * j + 2) = bI (f j).2.2
def iM : Option Sc_ → Int32
  | none => -1
  | some c => nI c.1
def LQ_ (L : Nat) (A : A_) (x11 : Int32) (O : Mem_) : Prop := WA A ∧ CI O A ∧ LB A.1 ∧ LA A.1 (O 7 0) ∧ O 8 0 1 0 = nI L ∧ A.2.2.1 0 = none ∧ x11 = iM (A.2.2.1 1) ∧ ∀ c, A.2.2.1 1 = some c → c.1 ≤ 20 ∧ S9 (O 7 0) c.2.1 c.1
def LP_ (L : Nat) (A : A_) (x10 x11 : Int32) (O : Mem_) : Prop := LQ_ L A x11 O ∧ A.2.1.1 ≤ 20 ∧ x10 = nI A.2.1.1 ∧ SH (O 7 0) A.2.1.2.1 A.2.1.1
variable {L : Nat} {A : A_} {O : Mem_} {x10 x11 : Int32}
theorem LQ_.fr {O' : Mem_} {p0 : Nat} (h : LQ_ L A x11 O) (hp : p0 = 7 ∨ p0 = 8) (f : FrP p0 O O') : LQ_ L A x11 O' := by
  obtain ⟨h1, h2, h3, h4, h5, h6, h7, h8⟩ := h
  refine ⟨h1, h2.of7 f.1, h3, h4.ofP (by omega) f, by rw [f.1 8 (by decide)]; exact h5, h6, h7, fun c hc => ⟨(h8 c hc).1, ?_⟩⟩
  unfold S9
  rw [f.2 9 (by omega)]
  exact (h8 c hc).2
theorem k_721 {e t : Nat} {x13 : Int32} (h : LP_ L A x10 x11 O) (ht : t < nT A.1) : ∃ O', ex 10 218 721 [some (vr 8 0 0), some (vr 6 0 0), none, some (vr 7 0 2), some (vr 7 0 3), some (vr 7 0 4), some (vr 7 0 5), some (vr 7 0 7), some (vr 7 0 8), some (vr 7 0 9), some (vi x10), some (vi x11), some (vi (nI e)), some (vi x13), none, some (vi (nI t))] [] O = ex 10 218 330 [some (vr 8 0 0), some (vr 6 0 0), none, some (vr 7 0 2), some (vr 7 0 3), some (vr 7 0 4), some (vr 7 0 5), some (vr 7 0 7), some (vr 7 0 8), some (vr 7 0 9), some (vi x10), some (vi x11), some (vi (nI (e + 1)))] [] O' ∧ LP_ L A x10 x11 O' := by
  obtain ⟨hq, hn, hx, sh⟩ := h
  have hq' := hq
  obtain ⟨hw, hc, hB, la, h8, h0, hx11, h9⟩ := hq'
  obtain ⟨O1, e1, f1, k1⟩ := l_all 5 hw.1 hB la hn sh (hw.2.1.2.1)
  have hq1 : LQ_ L A x11 O1 := hq.fr (p0 := 8) (Or.inr rfl) f1
  have sh1 := sh.of8 f1
  have lp1 : LP_ L A x10 x11 O1 := ⟨hq1, hn, hx, sh1⟩
  obtain ⟨-, hc1, -, la1, -⟩ := hq1
  have i3 : (nI 3).toNatClampNeg = 3 := by decide
  have st := sL_law_721 9 O x10 x11 (nI e) x13 (nI t)
  subst hx
  have e1' : ex 9 135 0 [some (vr 7 0 8), some (vr 7 0 7), some (vi (nI A.2.1.1)), some (vr 7 0 2), some (vr 7 0 4), some (vr 7 0 5)] [] O = some (nI 0, O1) := e1
  rw [e1'] at st
  simp only [Option.bind_some] at st
  rw [a_count4 hw hc1] at st
  simp only [Option.bind_some] at st
  rw [if_pos trivial] at st
  obtain ⟨K, hK, eK⟩ := low_ok 8 O1 (x13 >>> (nI 10 &&& (31 : Int32))) (n := 2 ^ nK A.1) (Nat.two_pow_pos _) (Nat.lt_of_le_of_lt (Nat.pow_le_pow_right (by decide) hB.2.2.2.2.2.2.2) (by decide : 2 ^ 4 < 2 ^ 31))
  have s813 : ex 10 218 813 [some (vr 8 0 0), some (vr 6 0 0), none, some (vr 7 0 2), some (vr 7 0 3), some (vr 7 0 4), some (vr 7 0 5), some (vr 7 0 7), some (vr 7 0 8), some (vr 7 0 9), some (vi (nI A.2.1.1)), some (vi x11), some (vi (nI e)), some (vi x13), none, some (vi (nI t))] [] O1 = ex 10 218 330 [some (vr 8 0 0), some (vr 6 0 0), none, some (vr 7 0 2), some (vr 7 0 3), some (vr 7 0 4), some (vr 7 0 5), some (vr 7 0 7), some (vr 7 0 8), some (vr 7 0 9), some (vi (nI A.2.1.1)), some (vi x11), some (vi (nI (e + 1)))] [] O1 := by
    refine (sL_law_813 ..).trans ?_
    rw [a_shown_no hw hc1 (Nat.le_refl _) (by omega)]
    simp only [Option.bind_some]
    rw [if_pos trivial, if_pos (by decide), i3, la1.1.2.2.2, q_shl _ (by have := hB.2.2.2.2.2.2.2; omega), eK]
    simp only [Option.bind_some]
    exact k_848 hw hc1 hB la1 ⟨sh1, k1⟩ hn rfl ht hK
  by_cases hz : 0 < A.2.1.1
  · obtain ⟨m1, m2, m3, -⟩ := a_shown hw hc1 (j := A.2.1.1 - 1) (by omega)
    obtain ⟨r1, r2, r3⟩ := sh1 (A.2.1.1 - 1) (by omega)
    rw [show 3 * (A.2.1.1 - 1) = 3 * A.2.1.1 - 3 by omega] at r1 r2 r3
    rw [show 3 * A.2.1.1 - 3 + 1 = 3 * A.2.1.1 - 2 by omega] at r2
    rw [show 3 * A.2.1.1 - 3 + 2 = 3 * A.2.1.1 - 1 by omega] at r3
    rw [if_pos (by rw [nI_ltI (by decide) (by omega)]; exact hz), pk_sub (by omega), m1] at st
    simp only [Option.bind_some] at st
    rw [pk_mul, pk_sub (by omega), if_pos (ib_n (by omega) (by decide)), nI_clamp (by omega), r1, if_pos rfl, m2] at st
    simp only [Option.bind_some] at st
    rw [pk_sub (by omega), if_pos (ib_n (by omega) (by decide)), nI_clamp (by omega), r2, if_pos rfl, m3] at st
    simp only [Option.bind_some] at st
    rw [pk_sub (by omega), if_pos (ib_n (by omega) (by decide)), nI_clamp (by omega), r3, if_pos rfl] at st
    exact ⟨O1, st.trans s813, lp1⟩
  · rw [if_neg (by rw [nI_ltI (by decide) (by omega)]; exact hz)] at st
    exact ⟨O1, st.trans s813, lp1⟩
end
