/-! THE LAW'S MAIN LOOP AND ITS END. -/
section
variable {L : Nat} {A : A_} {O : Mem_} {x10 x11 : Int32}
theorem bd {α β : Type} {r : Option α} {v : α} (h : r = some v) {f : α → Option β} : r.bind f = f v := by rw [h]; rfl
theorem one_bit (x : Int32) : ∃ b : Bool, x &&& nI 1 = bI b := by
  rw [show x &&& nI 1 = nI (x.toBitVec.toNat % 2 ^ 1) from pk_and x 1 (by decide)]
  have := Nat.mod_lt x.toBitVec.toNat (show 0 < 2 ^ 1 by decide)
  by_cases z : x.toBitVec.toNat % 2 ^ 1 = 0
  · exact ⟨false, by rw [z]; rfl⟩
  · exact ⟨true, by rw [show x.toBitVec.toNat % 2 ^ 1 = 1 by omega]; rfl⟩
theorem k_event {e : Nat} (h31 : L < 2 ^ 31) (h : LP_ L A x10 x11 O) (he : e < 26) : ∃ A' O' y10 y11, ex 10 218 330 [some (vr 8 0 0), some (vr 6 0 0), none, some (vr 7 0 2), some (vr 7 0 3), some (vr 7 0 4), some (vr 7 0 5), some (vr 7 0 7), some (vr 7 0 8), some (vr 7 0 9), some (vi x10), some (vi x11), some (vi (nI e))] [] O = ex 10 218 330 [some (vr 8 0 0), some (vr 6 0 0), none, some (vr 7 0 2), some (vr 7 0 3), some (vr 7 0 4), some (vr 7 0 5), some (vr 7 0 7), some (vr 7 0 8), some (vr 7 0 9), some (vi y10), some (vi y11), some (vi (nI (e + 1)))] [] O' ∧ A'.1 = A.1 ∧ LP_ L A' y10 y11 O' := by
  obtain ⟨hw, hc, hB, la, h8, h0, hx11, h9⟩ := h.1
  obtain ⟨b1, b2, b3, b4, b5, b6, b7, b8⟩ := hB
  have i0 : (nI 0).toNatClampNeg = 0 := by decide
  have i2 : (nI 2).toNatClampNeg = 2 := by decide
  have hT := hw.1
  obtain ⟨r, er⟩ := cell_ok 8 (k := 14 + e) h8 h31 (by omega)
  obtain ⟨s, hs, es⟩ := low_ok 8 O (r >>> (nI 4 &&& (31 : Int32))) (n := nS A.1) (by omega) (by omega)
  obtain ⟨t, ht, et⟩ := low_ok 8 O (r >>> (nI 6 &&& (31 : Int32))) (n := nT A.1) (by omega) (by omega)
  have hv15 : r &&& nI 15 = nI (r.toBitVec.toNat % 2 ^ 4) := pk_and r 4 (by decide)
  have hv := Nat.mod_lt r.toBitVec.toNat (show 0 < 2 ^ 4 by decide)
  generalize r.toBitVec.toNat % 2 ^ 4 = v at hv15 hv
  have st := sL_law_330 9 O x10 x11 (nI e)
  rw [if_pos (by rw [nI_ltI (by omega) (by omega)]; exact he), nI_add, er] at st
  simp only [Option.bind_some] at st
  rw [if_pos (by decide), i2, la.1.2.2.1, es] at st
  simp only [Option.bind_some] at st
  rw [if_pos (by decide), i0, la.1.1, et] at st
  simp only [Option.bind_some] at st
  rw [hv15] at st
  -- what comes behind the event
  have fin : (∃ A' O' y10 y11, ex 10 218 330 [some (vr 8 0 0), some (vr 6 0 0), none, some (vr 7 0 2), some (vr 7 0 3), some (vr 7 0 4), some (vr 7 0 5), some (vr 7 0 7), some (vr 7 0 8), some (vr 7 0 9), some (vi x10), some (vi x11), some (vi (nI e))] [] O = ex 10 218 721 [some (vr 8 0 0), some (vr 6 0 0), none, some (vr 7 0 2), some (vr 7 0 3), some (vr 7 0 4), some (vr 7 0 5), some (vr 7 0 7), some (vr 7 0 8), some (vr 7 0 9), some (vi y10), some (vi y11), some (vi (nI e)), some (vi r), none, some (vi (nI t))] [] O' ∧ A'.1 = A.1 ∧ LP_ L A' y10 y11 O') → ∃ A' O' y10 y11, ex 10 218 330 [some (vr 8 0 0), some (vr 6 0 0), none, some (vr 7 0 2), some (vr 7 0 3), some (vr 7 0 4), some (vr 7 0 5), some (vr 7 0 7), some (vr 7 0 8), some (vr 7 0 9), some (vi x10), some (vi x11), some (vi (nI e))] [] O = ex 10 218 330 [some (vr 8 0 0), some (vr 6 0 0), none, some (vr 7 0 2), some (vr 7 0 3), some (vr 7 0 4), some (vr 7 0 5), some (vr 7 0 7), some (vr 7 0 8), some (vr 7 0 9), some (vi y10), some (vi y11), some (vi (nI (e + 1)))] [] O' ∧ A'.1 = A.1 ∧ LP_ L A' y10 y11 O' := by
    rintro ⟨A', O', y10, y11, e1, eA, h'⟩
    obtain ⟨O2, e2, h2⟩ := k_721 (e := e) (x13 := r) h' (by rw [eA]; exact ht)
    exact ⟨A', O2, y10, y11, e1.trans e2, eA, h2⟩
  apply fin
  have other : ex 10 218 330 [some (vr 8 0 0), some (vr 6 0 0), none, some (vr 7 0 2), some (vr 7 0 3), some (vr 7 0 4), some (vr 7 0 5), some (vr 7 0 7), some (vr 7 0 8), some (vr 7 0 9), some (vi x10), some (vi x11), some (vi (nI e))] [] O = ex 10 218 512 [some (vr 8 0 0), some (vr 6 0 0), none, some (vr 7 0 2), some (vr 7 0 3), some (vr 7 0 4), some (vr 7 0 5), some (vr 7 0 7), some (vr 7 0 8), some (vr 7 0 9), some (vi x10), some (vi x11), some (vi (nI e)), some (vi r), none, some (vi (nI t)), some (vi (nI v))] [] O → ∃ A' O' y10 y11, ex 10 218 330 [some (vr 8 0 0), some (vr 6 0 0), none, some (vr 7 0 2), some (vr 7 0 3), some (vr 7 0 4), some (vr 7 0 5), some (vr 7 0 7), some (vr 7 0 8), some (vr 7 0 9), some (vi x10), some (vi x11), some (vi (nI e))] [] O = ex 10 218 721 [some (vr 8 0 0), some (vr 6 0 0), none, some (vr 7 0 2), some (vr 7 0 3), some (vr 7 0 4), some (vr 7 0 5), some (vr 7 0 7), some (vr 7 0 8), some (vr 7 0 9), some (vi y10), some (vi y11), some (vi (nI e)), some (vi r), none, some (vi (nI t))] [] O' ∧ A'.1 = A.1 ∧ LP_ L A' y10 y11 O' := fun s1 => by
    by_cases c1 : v < 13
    · obtain ⟨A', O', y10, e2, eA, h2⟩ := k_undo (e := e) (t := t) (x13 := r) h c1
      exact ⟨A', O', y10, x11, s1.trans e2, eA, h2⟩
    · by_cases c2 : v = 13
      · subst c2
        obtain ⟨A', O', y11, e2, eA, h2⟩ := k_keep (e := e) (t := t) (x13 := r) h
        exact ⟨A', O', x10, y11, s1.trans e2, eA, h2⟩
      · by_cases c3 : v = 14
        · subst c3
          obtain ⟨A', O', y10, e2, eA, h2⟩ := k_back (e := e) (t := t) (x13 := r) h
          exact ⟨A', O', y10, x11, s1.trans e2, eA, h2⟩
        · obtain ⟨A', O', y10, e2, eA, h2⟩ := k_clear (e := e) (t := t) (x13 := r) h (show v = 15 by omega)
          exact ⟨A', O', y10, x11, s1.trans e2, eA, h2⟩
  have hn20 := h.2.1
  have hx := h.2.2.1
  by_cases c11 : v < 11
  · rw [if_pos (by rw [nI_ltI (by omega) (by omega)]; exact c11)] at st
    by_cases cn : A.2.1.1 < 20
    · rw [if_pos (by rw [hx, nI_ltI (by omega) (by omega)]; exact cn)] at st
      by_cases c7 : v < 7
      · have hg := hT.2.2.2.2.2.2.1 s hs
        have a1 := are_lt hT (tg_ A.1 s)
        rw [if_pos (by rw [nI_ltI (by omega) (by omega)]; exact c7), if_pos (ib_n (by omega) (by decide)), nI_clamp (by omega), la.2.2.2.1 s hs, pk_mul, nI_add, if_pos (ib_n (by omega) (by decide)), nI_clamp (by omega), (la.2.2.1 _ hg).2.2, q_bitv _ _ (by omega) (by omega)] at st
        obtain ⟨A', O', y10, e2, eA, h2⟩ := k_shown (e := e) (x13 := r) (b := (are A.1 (tg_ A.1 s)).testBit t) h cn hs ht hv (fun _ => rfl)
        exact ⟨A', O', y10, x11, st.trans e2, eA, h2⟩
      · obtain ⟨b, hb⟩ := one_bit (r >>> (nI 9 &&& (31 : Int32)))
        rw [if_neg (by rw [nI_ltI (by omega) (by omega)]; exact c7), hb] at st
        obtain ⟨A', O', y10, e2, eA, h2⟩ := k_shown (e := e) (x13 := r) (b := b) h cn hs ht hv (fun z => absurd z c7)
        exact ⟨A', O', y10, x11, st.trans e2, eA, h2⟩
    · rw [if_neg (by rw [hx, nI_ltI (by omega) (by omega)]; exact cn)] at st
      exact other st
  · rw [if_neg (by rw [nI_ltI (by omega) (by omega)]; exact c11)] at st
    exact other st
theorem k_end (h : LP_ L A x10 x11 O) : ∃ O', ex 10 218 330 [some (vr 8 0 0), some (vr 6 0 0), none, some (vr 7 0 2), some (vr 7 0 3), some (vr 7 0 4), some (vr 7 0 5), some (vr 7 0 7), some (vr 7 0 8), some (vr 7 0 9), some (vi x10), some (vi x11), some (vi (nI 26))] [] O = some (nI 1, O') := by
  obtain ⟨hw, hc, hB, la, h8, h0, hx11, h9⟩ := h.1
  obtain ⟨b1, b2, b3, b4, b5, b6, b7, b8⟩ := hB
  have i0 : (nI 0).toNatClampNeg = 0 := by decide
  have i1 : (nI 1).toNatClampNeg = 1 := by decide
  have i2 : (nI 2).toNatClampNeg = 2 := by decide
  have i3 : (nI 3).toNatClampNeg = 3 := by decide
  have n1 : ∀ n, hsI (-1) n = false := fun n => by
    unfold hsI
    rw [decide_eq_true (by decide : (-1 : Int32) < nI 0)]
    rfl
  have hK : 2 ^ nK A.1 ≤ 2 ^ 4 := Nat.pow_le_pow_right (by decide) b8
  have m0 : ex 9 79 0 [some (vr 6 0 0), some (vi (nI 0)), some (vi (nI 3))] [] O = some (-1, O) := by
    by_cases z : 0 < A.2.1.1
    · exact (a_shown hw hc z).2.2.2
    · exact a_shown_no hw hc (j := 0) (by omega) (by decide)
  have q0 : hsI (O 7 0 5 (Int32.toNatClampNeg (nI 0))) (nT A.1) = false := by rw [i0, la.1.1]; exact hs_n (Nat.le_refl _) (by omega) (by omega)
  have q1 : hsI (O 7 0 5 (Int32.toNatClampNeg (nI 1))) (nM A.1) = false := by rw [i1, la.1.2.1]; exact hs_n (Nat.le_refl _) (by omega) (by omega)
  have q2 : hsI (O 7 0 5 (Int32.toNatClampNeg (nI 2))) (nS A.1) = false := by rw [i2, la.1.2.2.1]; exact hs_n (Nat.le_refl _) (by omega) (by omega)
  have q3 : hsI (O 7 0 5 (Int32.toNatClampNeg (nI 3))) (nK A.1) = false := by rw [i3, la.1.2.2.2]; exact hs_n (Nat.le_refl _) (by omega) (by omega)
  have q4 : hsI (nI 1 <<< (O 7 0 5 (Int32.toNatClampNeg (nI 3)) &&& (31 : Int32))) (2 ^ nK A.1) = false := by rw [i3, la.1.2.2.2, q_shl _ (by omega)]; exact hs_n (Nat.le_refl _) (by omega) (by omega)
  refine ⟨O, (sL_law_330 ..).trans ?_⟩
  refine (if_neg (by decide)).trans ?_
  refine (if_pos (by decide)).trans ?_
  refine (bd (a_thing_no hw hc q0)).trans ((if_pos rfl).trans ?_)
  refine (if_pos (by decide)).trans ?_
  refine (bd (a_meaning_no hw hc q1)).trans ((if_pos rfl).trans ?_)
  refine (bd ((a_meaning hw hc (j := 0) (by omega)).2.2.2.2.2)).trans ((if_pos rfl).trans ?_)
  refine (if_pos (by decide)).trans ?_
  refine (bd (a_word_no hw hc q2)).trans ((if_pos rfl).trans ?_)
  refine (if_pos (by decide)).trans ?_
  refine (bd (a_kind_no hw hc q3)).trans ((if_pos rfl).trans ?_)
  refine (bd ((a_kind hw hc (j := 0) (by omega)).2.2.2.2.2.2)).trans ((if_pos rfl).trans ?_)
  refine (if_pos (by decide)).trans ?_
  refine (bd (a_show_no hw hc (Or.inl q2))).trans ((if_pos rfl).trans ?_)
  refine (if_pos (by decide)).trans ?_
  refine (bd (a_teach_no hw hc (s := 0) (by omega) q0)).trans ((if_pos rfl).trans ?_)
  refine (bd (m0)).trans ((if_pos rfl).trans ?_)
  refine (if_pos (by decide)).trans ?_
  refine (bd (a_thinks_no hw hc q3)).trans ((if_pos rfl).trans ?_)
  refine (if_pos (by decide)).trans ?_
  refine (bd (a_fits_no hw hc (k := 0) (by omega) q2)).trans ((if_pos rfl).trans ?_)
  refine (bd (a_same_no hw hc (n1 _))).trans ((if_pos rfl).trans ?_)
  refine (if_pos (by decide)).trans ?_
  refine (bd (a_fled_no hw hc q3)).trans ((if_pos rfl).trans ?_)
  refine (bd (a_against_no hw hc (k := 0) (by omega) (n1 _))).trans ((if_pos rfl).trans ?_)
  refine (if_pos (by decide)).trans ?_
  refine (bd (a_common_no hw hc q4)).trans ((if_pos rfl).trans ?_)
  refine (bd (a_likely_no hw hc (s := 0) (by omega))).trans ((if_pos rfl).trans ?_)
  refine (if_pos (by decide)).trans ?_
  refine (bd (a_answer_no hw hc (k := 0) (s := 0) (by omega) (by omega) q0)).trans ((if_pos rfl).trans ?_)
  refine (bd (a_keep_no hw hc)).trans ((if_pos rfl).trans ?_)
  exact (bd (a_back0 hw hc (i := 0) (by decide) h0)).trans (if_pos rfl)
theorem k_main (h31 : L < 2 ^ 31) (h : LP_ L A (nI 0) (-1) O) : ∃ O', ex 10 218 321 [some (vr 8 0 0), some (vr 6 0 0), some (vr 7 0 1), some (vr 7 0 2), some (vr 7 0 3), some (vr 7 0 4), some (vr 7 0 5), some (vr 7 0 7), some (vr 7 0 8), some (vr 7 0 9)] [] O = some (nI 1, O') := by
  obtain ⟨⟨⟨⟨A', y10⟩, y11⟩, O'⟩, e1, h1⟩ := lp_i (fun e (z : ((A_ × Int32) × Int32) × Mem_) => ex 10 218 330 [some (vr 8 0 0), some (vr 6 0 0), none, some (vr 7 0 2), some (vr 7 0 3), some (vr 7 0 4), some (vr 7 0 5), some (vr 7 0 7), some (vr 7 0 8), some (vr 7 0 9), some (vi z.1.1.2), some (vi z.1.2), some (vi (nI e))] [] z.2) (fun _ z => LP_ L z.1.1.1 z.1.1.2 z.1.2 z.2) 26 (fun e z he hz => by
    obtain ⟨⟨⟨A1, z10⟩, z11⟩, O1⟩ := z
    obtain ⟨A', O', y10, y11, e1, -, h1⟩ := k_event h31 hz he
    exact ⟨⟨⟨⟨A', y10⟩, y11⟩, O'⟩, e1, h1⟩) ⟨⟨⟨A, nI 0⟩, -1⟩, O⟩ h
  obtain ⟨O2, e2⟩ := k_end h1
  exact ⟨O2, (sL_law_321 ..).trans (e1.trans e2)⟩
end
