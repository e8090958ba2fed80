/-! THE LAW TELLS ITS TEXT: sounds. -/
section
theorem wl_word : wl 2003792484 8 = w_word := by decide +kernel
/-- things and meanings as told -/
def R2 (a b : Nat) (l : List Nat) (M : List (Nat × Nat)) (R : Nat → Nat → Int32) : Prop := l.length = a ∧ (∀ x ∈ l, x < 16) ∧ (∀ j, j < a → R 1 j = nI (l.getD j 0)) ∧ M.length = b ∧ (∀ q ∈ M, q.1 < 16 ∧ q.2 < 16 ∧ q.1 &&& q.2 = 0) ∧ ∀ j, j < b → R 2 (3 * j) = nI (M.getD j (0, 0)).1 ∧ R 2 (3 * j + 1) = nI (M.getD j (0, 0)).2 ∧ R 2 (3 * j + 2) = nI (areL l (M.getD j (0, 0)))
theorem R2.of {a b : Nat} {l : List Nat} {M : List (Nat × Nat)} {R R' : Nat → Nat → Int32} (h : R2 a b l M R) (g1 : R' 1 = R 1) (g2 : R' 2 = R 2) : R2 a b l M R' := by
  unfold R2 at h ⊢
  rw [g1, g2]
  exact h
theorem R2.len {a b : Nat} {l : List Nat} {M : List (Nat × Nat)} {R : Nat → Nat → Int32} (h : R2 a b l M R) : (l.flatMap lnT).length ≤ 11 * a ∧ (M.flatMap lnM).length ≤ 20 * b := by
  obtain ⟨h1, h2, h3, h4, h5, h6⟩ := h
  have hT := fl_le (f := lnT) (b := 11) (P := fun x => x < 16) (fun a => lnT_len) l h2
  have hM := fl_le (f := lnM) (b := 20) (P := fun q : Nat × Nat => q.1 < 16 ∧ q.2 < 16 ∧ q.1 &&& q.2 = 0) (fun a => lnM_len) M h5
  rw [h1] at hT
  rw [h4] at hM
  exact ⟨hT, hM⟩
/-- k sounds were told -/
def S3 (L a b c e k : Nat) (l : List Nat) (M : List (Nat × Nat)) (W : List Nat) (O : Mem_) : Prop := R2 a b l M (O 7 0) ∧ W.length = k ∧ (∀ v ∈ W, v < b) ∧ (∀ j, j < k → O 7 0 3 j = nI (W.getD j 0)) ∧ TQ O (l.flatMap lnT ++ M.flatMap lnM ++ W.flatMap lnW) ∧ Mn (O 7 0) a b c e ∧ O 8 0 1 0 = nI L
theorem lnW_len (v : Nat) : (lnW v).length = 7 := rfl
theorem s3_step {L a b c e n k : Nat} {l : List Nat} {M : List (Nat × Nat)} {W : List Nat} {O : Mem_} (h31 : L < 2 ^ 31) (ha : a ≤ 5) (hb0 : 0 < b) (hb : b ≤ 6) (hc : c ≤ 3) (hk : k < c) (h : S3 L a b c e k l M W O) : ∃ v O', S3 L a b c e (k + 1) l M (W ++ [v]) O' ∧
    ex 10 129 435 [some (vr 6 0 0), some (vr 8 0 0), some (vi (nI 0)), none, some (vr 7 0 2), some (vr 7 0 3), some (vr 7 0 4), some (vr 7 0 5), some (vr 7 0 6), none, none, some (vi (nI n)), some (vi (nI k))] [] O = ex 10 129 435 [some (vr 6 0 0), some (vr 8 0 0), some (vi (nI 0)), none, some (vr 7 0 2), some (vr 7 0 3), some (vr 7 0 4), some (vr 7 0 5), some (vr 7 0 6), none, none, some (vi (nI n)), some (vi (nI (k + 1)))] [] O' := by
  obtain ⟨h1, h2, h3, h4, h5, h6, h7⟩ := h
  have hlen := h1.len
  have hW := fl_le (f := lnW) (b := 7) (P := fun _ => True) (fun a _ => Nat.le_of_eq (lnW_len a)) W (fun _ _ => trivial)
  obtain ⟨r0, e0⟩ := cell_ok 8 (k := 0 + 8) h7 h31 (by decide)
  obtain ⟨v, hv, e1⟩ := low_ok 8 O (r0 >>> (nI 6 * nI k &&& (31 : Int32))) hb0 (by omega)
  have wn : w_word.length = 4 := rfl
  have hl0 : (l.flatMap lnT ++ M.flatMap lnM ++ W.flatMap lnW).length ≤ 55 + 120 + 21 := by
    simp only [List.length_append]
    omega
  obtain ⟨O2, e2, t2, f2⟩ := q_word wl_word (h5.u7 (p := 3) (j := k) (v := nI v) (by decide)) (by omega)
  have hr : ∀ p, p ≠ 6 → p ≠ 3 → O2 7 0 p = O 7 0 p := fun p z z1 => (f2.2 p z).trans (funext fun q => up_ne (by omega))
  have hr1 : ∀ j, O2 7 0 3 j = if j = k then nI v else O 7 0 3 j := fun j => by
    rw [f2.2 3 (by decide)]
    by_cases e : j = k
    · rw [if_pos e, e, up_eq]
    · rw [if_neg e, up_ne (by omega)]
  obtain ⟨O3, e3, t3, f3⟩ := q_number (v := v) (by omega) t2 (by rw [List.length_append]; omega)
  have hn2 : (txN v).length = 2 := rfl
  obtain ⟨O4, e4, t4, f4⟩ := q_put (c := 59) t3 (by decide) (by rw [List.length_append, List.length_append]; omega)
  have f34 := f3.trans f4
  refine ⟨v, O4, ⟨h1.of ?_ ?_, by rw [List.length_append, h2]; rfl, fun y hy => ?_, fun j hj => ?_, ?_, h6.of ?_, ?_⟩, ?_⟩
  · rw [f34.2 1 (by decide), hr 1 (by decide) (by decide)]
  · rw [f34.2 2 (by decide), hr 2 (by decide) (by decide)]
  · rcases List.mem_append.mp hy with hy | hy
    · exact h3 y hy
    · rw [List.mem_singleton.mp hy]; exact hv
  · rw [f34.2 3 (by decide), hr1]
    by_cases e : j = k
    · rw [if_pos e, e, gd_n h2]
    · rw [if_neg e, gd_old (by omega)]
      exact h4 j (by omega)
  · rw [List.flatMap_append, List.flatMap_cons, List.flatMap_nil, List.append_nil]
    rw [show lnW v = w_word ++ (txN v ++ [59]) from rfl]
    simp only [List.append_assoc] at t4 ⊢
    exact t4
  · rw [f34.2 5 (by decide), hr 5 (by decide) (by decide)]
  · rw [f34.1 8 (by decide) (by decide), f2.1 8 (by decide) (by decide), up_row (Or.inl (by decide))]
    exact h7
  · have st := sL_told_435 9 O (nI 0) (nI n) (nI k)
    have i1 : (nI 1).toNatClampNeg = 1 := by decide
    have i2 : (nI 2).toNatClampNeg = 2 := by decide
    rw [if_pos (by decide), i2, h6.2.2.1, if_pos (by rw [nI_ltI (by omega) (by omega)]; exact hk), nI_add, e0, Option.bind_some, if_pos (by decide)] at st
    simp only [i1, h6.2.1, e1, Option.bind_some] at st
    rw [if_pos (ib_n (by omega) (by decide)), nI_clamp (by omega)] at st
    simp only [e2, Option.bind_some] at st
    rw [if_pos (ib_n (by omega) (by decide)), hr1, if_pos rfl] at st
    simp only [e3, e4, Option.bind_some, nI_add] at st
    exact st
end
