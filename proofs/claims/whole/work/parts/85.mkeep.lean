/-! THE MODEL'S text: a draft is kept. -/
section
theorem n_kd34 (d : Nat) (O : Mem_) : ∃ O', ex (d + 1) 125 34 [some (vr 7 0 0), some (vi (nI 0))] [] O = ex (d + 1) 125 60 [some (vr 7 0 0), some (vi (nI 0))] [] O' ∧ Ro 7 0 O O' ∧ (∀ p j, p ≠ 2 → O' 7 0 p j = O 7 0 p j) ∧ ∀ j, j < 8 → O' 7 0 2 j = O 7 0 11 j := by
  refine Exists.elim (lp_i (fun t (O : Mem_) => ex (d + 1) 125 34 [some (vr 7 0 0), some (vi (nI t))] [] O) (fun t O' => Ro 7 0 O O' ∧ (∀ p j, p ≠ 2 → O' 7 0 p j = O 7 0 p j) ∧ ∀ j, j < t → O' 7 0 2 j = O 7 0 11 j) 8 ?_ O ⟨Ro.rfl, fun _ _ _ => rfl, fun j hj => absurd hj (Nat.not_lt_zero j)⟩) ?_
  · intro t O1 ht ⟨g1, g2, g3⟩
    refine ⟨up O1 7 0 2 t (O1 7 0 11 t), ?_, g1.up, fun p' j h => (up_ne (fun q => h q.1)).trans (g2 p' j h), fun j hj => ?_⟩
    · refine (sX7_keepDraft_34 ..).trans ?_
      have hi : ib (nI t) 8 = true := ib_n ht (by decide)
      have hc : Int32.toNatClampNeg (nI t) = t := nI_clamp (by omega)
      rw [if_pos (nI_lt ht (by decide)), if_pos hi, if_pos hi, hc, nI_add]
    · by_cases z : j = t
      · rw [z, up_eq, g2 _ _ (by decide)]
      · rw [up_ne (by omega)]; exact g3 j (by omega)
  · rintro O' ⟨e, g1, g2, g3⟩
    refine ⟨O', e.trans ?_, g1, g2, g3⟩
    refine (sX7_keepDraft_34 ..).trans ?_
    rw [if_neg (nI_nlt (Nat.le_refl 8) (by decide))]
theorem n_kd175 (d : Nat) (O : Mem_) : ∃ O', ex (d + 1) 125 175 [some (vr 7 0 0), some (vi (nI 0))] [] O = ex (d + 1) 125 200 [some (vr 7 0 0), some (vi (nI 0))] [] O' ∧ Ro 7 0 O O' ∧ (∀ p j, p ≠ 7 → O' 7 0 p j = O 7 0 p j) ∧ ∀ j, j < 4 → O' 7 0 7 j = O 7 0 16 j := by
  refine Exists.elim (lp_i (fun t (O : Mem_) => ex (d + 1) 125 175 [some (vr 7 0 0), some (vi (nI t))] [] O) (fun t O' => Ro 7 0 O O' ∧ (∀ p j, p ≠ 7 → O' 7 0 p j = O 7 0 p j) ∧ ∀ j, j < t → O' 7 0 7 j = O 7 0 16 j) 4 ?_ O ⟨Ro.rfl, fun _ _ _ => rfl, fun j hj => absurd hj (Nat.not_lt_zero j)⟩) ?_
  · intro t O1 ht ⟨g1, g2, g3⟩
    refine ⟨up O1 7 0 7 t (O1 7 0 16 t), ?_, g1.up, fun p' j h => (up_ne (fun q => h q.1)).trans (g2 p' j h), fun j hj => ?_⟩
    · refine (sX7_keepDraft_175 ..).trans ?_
      have hi : ib (nI t) 4 = true := ib_n ht (by decide)
      have hc : Int32.toNatClampNeg (nI t) = t := nI_clamp (by omega)
      rw [if_pos (nI_lt ht (by decide)), if_pos hi, if_pos hi, hc, nI_add]
    · by_cases z : j = t
      · rw [z, up_eq, g2 _ _ (by decide)]
      · rw [up_ne (by omega)]; exact g3 j (by omega)
  · rintro O' ⟨e, g1, g2, g3⟩
    refine ⟨O', e.trans ?_, g1, g2, g3⟩
    refine (sX7_keepDraft_175 ..).trans ?_
    rw [if_neg (nI_nlt (Nat.le_refl 4) (by decide))]
theorem n_kd200 (d : Nat) (O : Mem_) : ∃ O', ex (d + 1) 125 200 [some (vr 7 0 0), some (vi (nI 0))] [] O = ex (d + 1) 125 200 [some (vr 7 0 0), some (vi (nI 30))] [] O' ∧ Ro 7 0 O O' ∧ (∀ p j, p ≠ 9 → O' 7 0 p j = O 7 0 p j) ∧ ∀ j, j < 30 → O' 7 0 9 j = O 7 0 18 j := by
  refine Exists.elim (lp_i (fun t (O : Mem_) => ex (d + 1) 125 200 [some (vr 7 0 0), some (vi (nI t))] [] O) (fun t O' => Ro 7 0 O O' ∧ (∀ p j, p ≠ 9 → O' 7 0 p j = O 7 0 p j) ∧ ∀ j, j < t → O' 7 0 9 j = O 7 0 18 j) 30 ?_ O ⟨Ro.rfl, fun _ _ _ => rfl, fun j hj => absurd hj (Nat.not_lt_zero j)⟩) ?_
  · intro t O1 ht ⟨g1, g2, g3⟩
    refine ⟨up O1 7 0 9 t (O1 7 0 18 t), ?_, g1.up, fun p' j h => (up_ne (fun q => h q.1)).trans (g2 p' j h), fun j hj => ?_⟩
    · refine (sX7_keepDraft_200 ..).trans ?_
      have hi : ib (nI t) 30 = true := ib_n ht (by decide)
      have hc : Int32.toNatClampNeg (nI t) = t := nI_clamp (by omega)
      rw [if_pos (nI_lt ht (by decide)), if_pos hi, if_pos hi, hc, nI_add]
    · by_cases z : j = t
      · rw [z, up_eq, g2 _ _ (by decide)]
      · rw [up_ne (by omega)]; exact g3 j (by omega)
  · rintro O' ⟨e, g1, g2, g3⟩
    exact ⟨O', e, g1, g2, g3⟩
/-- is a thing what a draft's row says -/
def arF (x h u : Int32) : Bool := decide ((x &&& h) = h) && decide ((x &&& u) = nI 0)
theorem arF_n {x h u : Nat} (hh : h < 256) (hu : u < 256) : arF (nI x) (nI h) (nI u) = ((x &&& h == h) && (x &&& u == 0)) := by
  have b1 : x &&& h < 2 ^ 31 := Nat.lt_of_le_of_lt Nat.and_le_right (by omega)
  have b2 : x &&& u < 2 ^ 31 := Nat.lt_of_le_of_lt Nat.and_le_right (by omega)
  unfold arF
  rw [q_and, q_and, decide_eq_decide.mpr (nI_eq b1 (by omega)), decide_eq_decide.mpr (nI_eq b2 (by decide))]
  rfl
theorem n_kd99 (d : Nat) {N m : Nat} (hN : N ≤ 8) (hm : m < 12) (O : Mem_) (h0 : O 7 0 0 0 = nI N) (h19 : O 7 0 19 m = nI 0) : ∃ O', ex (d + 1) 125 99 [some (vr 7 0 0), some (vi (nI m)), some (vi (nI 0))] [] O = ex (d + 1) 125 60 [some (vr 7 0 0), some (vi (nI (m + 1)))] [] O' ∧ Ro 7 0 O O' ∧ (∀ p j, ¬ (p = 19 ∧ j = m) → O' 7 0 p j = O 7 0 p j) ∧ O' 7 0 19 m = nI (ms N fun t => arF (O 7 0 2 t) (O 7 0 4 m) (O 7 0 5 m)) := by
  refine Exists.elim (lp_i (fun t (O : Mem_) => ex (d + 1) 125 99 [some (vr 7 0 0), some (vi (nI m)), some (vi (nI t))] [] O) (fun t O' => Ro 7 0 O O' ∧ (∀ p j, ¬ (p = 19 ∧ j = m) → O' 7 0 p j = O 7 0 p j) ∧ O' 7 0 19 m = nI (ms t fun t => arF (O 7 0 2 t) (O 7 0 4 m) (O 7 0 5 m))) N ?_ O ⟨Ro.rfl, fun _ _ _ => rfl, h19⟩) ?_
  · intro t O1 ht ⟨g1, g2, g3⟩
    have hi : ib (nI t) 8 = true := ib_n (by omega) (by decide)
    have hj : ib (nI m) 12 = true := ib_n hm (by decide)
    have hc : Int32.toNatClampNeg (nI t) = t := nI_clamp (by omega)
    have hd : Int32.toNatClampNeg (nI m) = m := nI_clamp (by omega)
    refine ⟨up O1 7 0 19 m (nI (ms (t + 1) fun t => arF (O 7 0 2 t) (O 7 0 4 m) (O 7 0 5 m))), ?_, g1.up, fun p j h => (up_ne h).trans (g2 p j h), up_eq ..⟩
    refine (sX7_keepDraft_99 ..).trans ?_
    rw [g2 0 0 (by omega), h0, if_pos (nI_lt ht (by omega))]
    simp only [hi, hj, hc, hd, ↓reduceIte]
    rw [g2 2 t (by omega), g2 4 m (by omega), g2 5 m (by omega), g3, ms_s, q_shl t (by omega), q_or, nI_add]
    by_cases a : (O 7 0 2 t &&& O 7 0 4 m) = O 7 0 4 m
    · rw [if_pos a]
      by_cases c : (O 7 0 2 t &&& O 7 0 5 m) = nI 0
      · have ha : arF (O 7 0 2 t) (O 7 0 4 m) (O 7 0 5 m) = true := by unfold arF; rw [decide_eq_true a, decide_eq_true c]; rfl
        rw [if_pos c, if_pos ha]
      · have ha : arF (O 7 0 2 t) (O 7 0 4 m) (O 7 0 5 m) = false := by unfold arF; rw [decide_eq_false c, Bool.and_false]
        rw [if_neg c, if_neg (by rw [ha]; decide), q_or, Nat.or_zero]
    · have ha : arF (O 7 0 2 t) (O 7 0 4 m) (O 7 0 5 m) = false := by unfold arF; rw [decide_eq_false a, Bool.false_and]
      rw [if_neg a, if_neg (by rw [ha]; decide), q_or, Nat.or_zero]
  · rintro O' ⟨e, g1, g2, g3⟩
    refine ⟨O', e.trans ?_, g1, g2, g3⟩
    refine (sX7_keepDraft_99 ..).trans ?_
    rw [g2 0 0 (by omega), h0, if_neg (nI_nlt (Nat.le_refl N) (by omega)), nI_add]
theorem n_kd60 (d : Nat) {N : Nat} (hN : N ≤ 8) (O : Mem_) (h0 : O 7 0 0 0 = nI N) : ∃ O', ex (d + 1) 125 60 [some (vr 7 0 0), some (vi (nI 0))] [] O = ex (d + 1) 125 175 [some (vr 7 0 0), some (vi (nI 0))] [] O' ∧ Ro 7 0 O O' ∧ (∀ p j, p ≠ 4 → p ≠ 5 → p ≠ 19 → O' 7 0 p j = O 7 0 p j) ∧ ∀ j, j < 12 → O' 7 0 4 j = O 7 0 13 j ∧ O' 7 0 5 j = O 7 0 14 j ∧ O' 7 0 19 j = nI (ms N fun t => arF (O 7 0 2 t) (O 7 0 13 j) (O 7 0 14 j)) := by
  refine Exists.elim (lp_i (fun m (O : Mem_) => ex (d + 1) 125 60 [some (vr 7 0 0), some (vi (nI m))] [] O) (fun m O' => Ro 7 0 O O' ∧ (∀ p j, p ≠ 4 → p ≠ 5 → p ≠ 19 → O' 7 0 p j = O 7 0 p j) ∧ ∀ j, j < m → O' 7 0 4 j = O 7 0 13 j ∧ O' 7 0 5 j = O 7 0 14 j ∧ O' 7 0 19 j = nI (ms N fun t => arF (O 7 0 2 t) (O 7 0 13 j) (O 7 0 14 j))) 12 ?_ O ⟨Ro.rfl, fun _ _ _ _ _ => rfl, fun j hj => absurd hj (Nat.not_lt_zero j)⟩) ?_
  · intro m O1 hm ⟨g1, g2, g3⟩
    have hj : ib (nI m) 12 = true := ib_n hm (by decide)
    have hd : Int32.toNatClampNeg (nI m) = m := nI_clamp (by omega)
    obtain ⟨O2, q2⟩ : ∃ O2, O2 = up (up (up O1 7 0 4 m (O 7 0 13 m)) 7 0 5 m (O 7 0 14 m)) 7 0 19 m (nI 0) := ⟨_, rfl⟩
    have k2 : ∀ p j, ¬ (p = 4 ∧ j = m) → ¬ (p = 5 ∧ j = m) → ¬ (p = 19 ∧ j = m) → O2 7 0 p j = O1 7 0 p j := fun p j a b c => by
      rw [q2, up_ne c, up_ne b, up_ne a]
    have k4 : O2 7 0 4 m = O 7 0 13 m := by rw [q2, up_ne (by omega), up_ne (by omega), up_eq]
    have k5 : O2 7 0 5 m = O 7 0 14 m := by rw [q2, up_ne (by omega), up_eq]
    obtain ⟨O3, e3, f3, h3, v3⟩ := n_kd99 d hN hm O2 (by rw [k2 0 0 (by omega) (by omega) (by omega), g2 0 0 (by decide) (by decide) (by decide)]; exact h0) (by rw [q2, up_eq])
    have r2 : Ro 7 0 O O2 := by rw [q2]; exact g1.up.up.up
    refine ⟨O3, ?_, r2.trans f3, fun p j a b c => ?_, fun j hjm => ?_⟩
    · refine (sX7_keepDraft_60 ..).trans ?_
      rw [if_pos (nI_lt hm (by decide))]
      simp only [hj, hd, ↓reduceIte]
      rw [up_ne (by omega), g2 13 m (by decide) (by decide) (by decide), g2 14 m (by decide) (by decide) (by decide), ← q2]
      exact e3
    · rw [h3 p j (by omega), k2 p j (by omega) (by omega) (by omega)]; exact g2 p j a b c
    · by_cases z : j = m
      · subst z
        rw [h3 4 j (by omega), h3 5 j (by omega), v3, k4, k5]
        refine ⟨rfl, rfl, ?_⟩
        congr 1
        exact ms_ext fun t _ => by rw [k2 2 t (by omega) (by omega) (by omega), g2 2 t (by decide) (by decide) (by decide)]
      · rw [h3 4 j (by omega), h3 5 j (by omega), h3 19 j (by omega), k2 4 j (by omega) (by omega) (by omega), k2 5 j (by omega) (by omega) (by omega), k2 19 j (by omega) (by omega) (by omega)]
        exact g3 j (by omega)
  · rintro O' ⟨e, g1, g2, g3⟩
    refine ⟨O', e.trans ?_, g1, g2, g3⟩
    refine (sX7_keepDraft_60 ..).trans ?_
    rw [if_neg (nI_nlt (Nat.le_refl 12) (by decide))]
/-- what keeping a draft changes -/
def Kx (O O' : Mem_) : Prop := Ro 7 0 O O' ∧ ∀ p j, p ≠ 2 → p ≠ 4 → p ≠ 5 → p ≠ 7 → p ≠ 9 → p ≠ 19 → p ≠ 28 → p ≠ 38 → (p = 0 → j ≠ 0 ∧ j ≠ 2 ∧ j ≠ 5 ∧ j ≠ 7 ∧ j ≠ 28 ∧ j ≠ 33 ∧ j ≠ 34) → O' 7 0 p j = O 7 0 p j
theorem n_keepDraft (d : Nat) {O : Mem_} {T : Td_} (hD : MD (O 7 0) T) (hT : WT T) : ∃ O', ex (d + 8) 125 0 [some (vr 7 0 0)] [] O = some (nI 0, O') ∧ Kx O O' ∧ MT (O' 7 0) T ∧ MS (O' 7 0) (sc0 T) ∧ (∀ i, i < 2 → MIm (O' 7 0) i none) ∧ NM (O' 7 0) 0 T (mds T (sc0 T).2.1 (sc0 T).1) := by
  obtain ⟨⟨D1, D2, D3, D4⟩, D5, D6, D7, D8⟩ := hD
  have h8 := hT.1
  have h12 := hT.2.1
  have h4 := hT.2.2.1
  have h6 := hT.2.2.2.1
  have st := sX7_keepDraft_0 (d + 7) O
  simp (disch := omega) only [up_ne] at st
  rw [D1, D2, D3, D4] at st
  obtain ⟨O1, q1⟩ : ∃ O1, O1 = up (up (up (up O 7 0 0 0 (nI (nT T))) 7 0 0 2 (nI (nM T))) 7 0 0 5 (nI (nS T))) 7 0 0 7 (nI (nK T)) := ⟨_, rfl⟩
  rw [← q1] at st
  have k1 : ∀ p j, (p = 0 → j ≠ 0 ∧ j ≠ 2 ∧ j ≠ 5 ∧ j ≠ 7) → O1 7 0 p j = O 7 0 p j := fun p j a => by
    rw [q1, up_ne (by omega), up_ne (by omega), up_ne (by omega), up_ne (by omega)]
  have c1 : O1 7 0 0 0 = nI (nT T) ∧ O1 7 0 0 2 = nI (nM T) ∧ O1 7 0 0 5 = nI (nS T) ∧ O1 7 0 0 7 = nI (nK T) := by
    rw [q1]
    refine ⟨?_, ?_, ?_, ?_⟩ <;> simp (disch := omega) only [up_ne, up_eq]
  have r1 : Ro 7 0 O O1 := by rw [q1]; exact Ro.rfl.up.up.up.up
  obtain ⟨O2, e2, r2, k2, v2⟩ := n_kd34 (d + 7) O1
  have k2' : O2 7 0 0 0 = nI (nT T) := (k2 0 0 (by decide)).trans c1.1
  obtain ⟨O3, e3, r3, k3, v3⟩ := n_kd60 (d + 7) h8 O2 k2'
  obtain ⟨O4, e4, r4, k4, v4⟩ := n_kd175 (d + 7) O3
  obtain ⟨O5, e5, r5, k5, v5⟩ := n_kd200 (d + 7) O4
  have K5 : ∀ p j, p ≠ 2 → p ≠ 4 → p ≠ 5 → p ≠ 7 → p ≠ 9 → p ≠ 19 → O5 7 0 p j = O1 7 0 p j := fun p j a1 a2 a3 a4 a5 a6 => by
    rw [k5 p j a5, k4 p j a4, k3 p j a2 a3 a6, k2 p j a1]
  obtain ⟨O6, q6⟩ : ∃ O6, O6 = up (up (up (up (up O5 7 0 0 28 (nI 0)) 7 0 0 33 (nI (2 ^ nK T - 1))) 7 0 0 34 (nI 0)) 7 0 38 0 (nI 0)) 7 0 38 1 (nI 0) := ⟨_, rfl⟩
  have k6 : ∀ p j, p ≠ 38 → (p = 0 → j ≠ 28 ∧ j ≠ 33 ∧ j ≠ 34) → O6 7 0 p j = O5 7 0 p j := fun p j a b => by
    rw [q6, up_ne (by omega), up_ne (by omega), up_ne (by omega), up_ne (by omega), up_ne (by omega)]
  have s6 : ex (d + 8) 125 200 [some (vr 7 0 0), some (vi (nI 30))] [] O5 = ((ex (d + 7) 162 0 [some (vr 7 0 0)] [] O6).bind fun r0 => some (nI 0, r0.2)) := by
    rw [show d + 8 = d + 7 + 1 from rfl, sX7_keepDraft_200, if_neg (nI_nlt (Nat.le_refl 30) (by decide)), if_pos (by decide), if_pos (by decide), up_ne (by omega), K5 0 7 (by decide) (by decide) (by decide) (by decide) (by decide) (by decide), c1.2.2.2, q_shlm _ (by omega), show Int32.toNatClampNeg (nI 0) = 0 from rfl, show Int32.toNatClampNeg (nI 1) = 1 from rfl, ← q6]
  have r6 : Ro 7 0 O O6 := by rw [q6]; exact ((((r1.trans r2).trans r3).trans r4).trans r5).up.up.up.up.up
  have hMT : MT (O6 7 0) T := by
    refine ⟨⟨?_, ?_, ?_, ?_⟩, fun t ht => ?_, fun m hm => ⟨?_, ?_, ?_⟩, fun s hs => ?_, fun k hk => ⟨?_, ?_, ?_, ?_, ?_⟩⟩
    · rw [k6 _ _ (by decide) (by decide), K5 _ _ (by decide) (by decide) (by decide) (by decide) (by decide) (by decide)]; exact c1.1
    · rw [k6 _ _ (by decide) (by decide), K5 _ _ (by decide) (by decide) (by decide) (by decide) (by decide) (by decide)]; exact c1.2.1
    · rw [k6 _ _ (by decide) (by decide), K5 _ _ (by decide) (by decide) (by decide) (by decide) (by decide) (by decide)]; exact c1.2.2.1
    · rw [k6 _ _ (by decide) (by decide), K5 _ _ (by decide) (by decide) (by decide) (by decide) (by decide) (by decide)]; exact c1.2.2.2
    · rw [k6 _ _ (by decide) (by omega), k5 _ _ (by decide), k4 _ _ (by decide), k3 _ _ (by decide) (by decide) (by decide), v2 t (by omega), k1 _ _ (by omega)]; exact D5 t ht
    · rw [k6 _ _ (by decide) (by omega), k5 _ _ (by decide), k4 _ _ (by decide), (v3 m (by omega)).1, k2 _ _ (by decide), k1 _ _ (by omega)]; exact (D6 m hm).1
    · rw [k6 _ _ (by decide) (by omega), k5 _ _ (by decide), k4 _ _ (by decide), (v3 m (by omega)).2.1, k2 _ _ (by decide), k1 _ _ (by omega)]; exact (D6 m hm).2
    · rw [k6 _ _ (by decide) (by omega), k5 _ _ (by decide), k4 _ _ (by decide), (v3 m (by omega)).2.2]
      congr 1
      have hb := hT.2.2.2.2.2.1 m
      refine ms_ext fun t ht => ?_
      rw [v2 t (by omega), k1 _ _ (by omega), D5 t ht, k2 _ _ (by decide), k1 _ _ (by omega), (D6 m hm).1, k2 _ _ (by decide), k1 _ _ (by omega), (D6 m hm).2, arF_n hb.1 hb.2.1]
      rfl
    · rw [k6 _ _ (by decide) (by omega), k5 _ _ (by decide), v4 s (by omega), k3 _ _ (by decide) (by decide) (by decide), k2 _ _ (by decide), k1 _ _ (by omega)]; exact D7 s hs
    · rw [k6 _ _ (by decide) (by omega), v5 _ (by omega), k4 _ _ (by decide), k3 _ _ (by decide) (by decide) (by decide), k2 _ _ (by decide), k1 _ _ (by omega)]; exact (D8 k hk).1
    · rw [k6 _ _ (by decide) (by omega), v5 _ (by omega), k4 _ _ (by decide), k3 _ _ (by decide) (by decide) (by decide), k2 _ _ (by decide), k1 _ _ (by omega)]; exact (D8 k hk).2.1
    · rw [k6 _ _ (by decide) (by omega), v5 _ (by omega), k4 _ _ (by decide), k3 _ _ (by decide) (by decide) (by decide), k2 _ _ (by decide), k1 _ _ (by omega)]; exact (D8 k hk).2.2.1
    · rw [k6 _ _ (by decide) (by omega), v5 _ (by omega), k4 _ _ (by decide), k3 _ _ (by decide) (by decide) (by decide), k2 _ _ (by decide), k1 _ _ (by omega)]; exact (D8 k hk).2.2.2.1
    · rw [k6 _ _ (by decide) (by omega), v5 _ (by omega), k4 _ _ (by decide), k3 _ _ (by decide) (by decide) (by decide), k2 _ _ (by decide), k1 _ _ (by omega)]; exact (D8 k hk).2.2.2.2
  have c6 : O6 7 0 0 28 = nI 0 ∧ O6 7 0 0 33 = nI (2 ^ nK T - 1) ∧ O6 7 0 0 34 = nI 0 ∧ O6 7 0 38 0 = nI 0 ∧ O6 7 0 38 1 = nI 0 := by
    rw [q6]
    refine ⟨?_, ?_, ?_, ?_, ?_⟩ <;> simp (disch := omega) only [up_ne, up_eq]
  obtain ⟨O7, e7, f7, m7⟩ := n_replays d (c := sc0 T) hMT hT c6.1 (fun j hj => absurd hj (Nat.not_lt_zero j)) sc0_ok
  have k7 : ∀ p j, p ≠ 28 → O7 7 0 p j = O6 7 0 p j := fun p j a => f7.2 p j (by omega)
  rw [e7] at s6
  refine ⟨O7, st.trans (e2.trans (e3.trans (e4.trans (e5.trans s6)))), ⟨r6.trans f7.1, fun p j a1 a2 a3 a4 a5 a6 a7 a8 a9 => ?_⟩, hMT.nx f7, ⟨?_, fun j hj => absurd hj (Nat.not_lt_zero j), ?_, ?_, fun j hj => absurd hj (Nat.not_lt_zero j)⟩, fun i hi => ?_, m7⟩
  · rw [k7 _ _ a7, k6 _ _ a8 (by omega), K5 _ _ a1 a2 a3 a4 a5 a6, k1 _ _ (by omega)]
  · rw [k7 _ _ (by decide)]; exact c6.1
  · rw [k7 _ _ (by decide)]; exact c6.2.1
  · rw [k7 _ _ (by decide)]; exact c6.2.2.1
  · show O7 7 0 38 i = nI 0
    rw [k7 _ _ (by decide)]
    rcases (by omega : i = 0 ∨ i = 1) with rfl | rfl
    · exact c6.2.2.2.1
    · exact c6.2.2.2.2
theorem n_text {O : Mem_} {A : A_} (hw : WA A) (hm : MI (O 7 0) A) : ∃ O2, ex 40 140 0 [some (vr 7 0 0)] [] O = some (txR (rdText A.2.2.2.1.2 A.2.2.2.1.1), O2) ∧ MI (O2 7 0) (txA A (rdText A.2.2.2.1.2 A.2.2.2.1.1)) ∧ ∀ c, c ≠ 7 → O2 c = O c := by
  obtain ⟨mT, mSc, mIm, mN, mP, mF, mSh, mt⟩ := hm
  obtain ⟨wT, wS, wI, wP, wF, wSh, wt⟩ := hw
  obtain ⟨x, O1, e1, f1, r1, x1⟩ := n_readText 33 wP.1 wP.2 mP
  have s44 := sX7_text_44 39 O1 (nI x)
  have e1 : ex 40 140 0 [some (vr 7 0 0)] [] O = ex (39 + 1) 140 44 [some (vr 7 0 0), some (vi (nI x))] [] O1 := e1
  have k1 : ∀ p j, p ≠ 11 → p ≠ 13 → p ≠ 14 → p ≠ 16 → p ≠ 18 → (p = 0 → j ≠ 9 ∧ j ≠ 11 ∧ j ≠ 14 ∧ j ≠ 16 ∧ (j < 21 ∨ 26 < j)) → O1 7 0 p j = O 7 0 p j := f1.2
  obtain ⟨O2, q2⟩ : ∃ O2, O2 = up O1 7 0 0 20 (nI 0) := ⟨_, rfl⟩
  rw [← q2] at s44
  have k2 : ∀ p j, ¬ (p = 0 ∧ j = 20) → O2 7 0 p j = O1 7 0 p j := fun p j a => by rw [q2, up_ne a]
  have r2 : Ro 7 0 O O2 := by rw [q2]; exact f1.1.up
  cases hr : rdText A.2.2.2.1.2 A.2.2.2.1.1 with
  | error e =>
    rw [hr] at r1
    have r1 : ME O1 e := r1
    rw [k2 0 25 (by decide), k2 0 26 (by decide), if_pos (n_fgt r1), r1.2.1] at s44
    have g : ∀ p j, p ≠ 11 → p ≠ 13 → p ≠ 14 → p ≠ 16 → p ≠ 18 → (p = 0 → j ≠ 9 ∧ j ≠ 11 ∧ j ≠ 14 ∧ j ≠ 16 ∧ (j < 20 ∨ 26 < j)) → O2 7 0 p j = O 7 0 p j := fun p j a1 a2 a3 a4 a5 a6 => (k2 p j (by omega)).trans (k1 p j a1 a2 a3 a4 a5 (by omega))
    refine ⟨O2, e1.trans s44, ⟨?_, ?_, fun i hi => ?_, ?_, ⟨?_, fun j hj => absurd hj (Nat.not_lt_zero j)⟩, ?_, ?_, ?_⟩, fun c z => funext fun q => r2 c q (Or.inl z)⟩
    · refine ⟨⟨?_, ?_, ?_, ?_⟩, fun t ht => ?_, fun m hm => ⟨?_, ?_, ?_⟩, fun s hs => ?_, fun k hk => ⟨?_, ?_, ?_, ?_, ?_⟩⟩ <;> rw [g _ _ (by decide) (by decide) (by decide) (by decide) (by decide) (by omega)]
      · exact mT.1.1
      · exact mT.1.2.1
      · exact mT.1.2.2.1
      · exact mT.1.2.2.2
      · exact mT.2.1 t ht
      · exact (mT.2.2.1 m hm).1
      · exact (mT.2.2.1 m hm).2.1
      · exact (mT.2.2.1 m hm).2.2
      · exact mT.2.2.2.1 s hs
      · exact (mT.2.2.2.2 k hk).1
      · exact (mT.2.2.2.2 k hk).2.1
      · exact (mT.2.2.2.2 k hk).2.2.1
      · exact (mT.2.2.2.2 k hk).2.2.2.1
      · exact (mT.2.2.2.2 k hk).2.2.2.2
    · refine ⟨?_, fun j hj => ⟨?_, ?_, ?_⟩, ?_, ?_, fun j hj => ⟨?_, ?_⟩⟩ <;> rw [g _ _ (by decide) (by decide) (by decide) (by decide) (by decide) (by omega)]
      · exact mSc.1
      · exact (mSc.2.1 j hj).1
      · exact (mSc.2.1 j hj).2.1
      · exact (mSc.2.1 j hj).2.2
      · exact mSc.2.2.1
      · exact mSc.2.2.2.1
      · exact (mSc.2.2.2.2 j hj).1
      · exact (mSc.2.2.2.2 j hj).2
    · exact (mIm i hi).of fun p q a b => g p q (by omega) (by omega) (by omega) (by omega) (by omega) (by omega)
    · obtain ⟨g1, S, N, g2⟩ := mN
      refine ⟨fun k hk => ⟨fun s hs => ?_, ?_, ?_⟩, S, N, fun s hs => ?_⟩
      · rw [g _ _ (by decide) (by decide) (by decide) (by decide) (by decide) (by omega), g _ _ (by decide) (by decide) (by decide) (by decide) (by decide) (by omega)]; exact (g1 k hk).1 s hs
      · rw [g _ _ (by decide) (by decide) (by decide) (by decide) (by decide) (by omega)]; exact (g1 k hk).2.1
      · rw [g _ _ (by decide) (by decide) (by decide) (by decide) (by decide) (by omega)]; exact (g1 k hk).2.2
      · rw [g _ _ (by decide) (by decide) (by decide) (by decide) (by decide) (by omega), g _ _ (by decide) (by decide) (by decide) (by decide) (by decide) (by omega)]; exact g2 s hs
    · rw [q2, up_eq]; rfl
    · rw [k2 0 25 (by decide)]; exact r1.1
    · exact mSh.of fun p q a b => g p q (by omega) (by omega) (by omega) (by omega) (by omega) (by omega)
    · rw [g _ _ (by decide) (by decide) (by decide) (by decide) (by decide) (by decide)]; exact mt
  | ok p =>
    rw [hr] at r1
    obtain ⟨r25, rD⟩ := r1
    have hx := x1 p hr
    have hTp := rdText_ok hr
    have D2 : MD (O2 7 0) p.1 := by
      obtain ⟨⟨d1, d2, d3, d4⟩, d5, d6, d7, d8⟩ := rD
      refine ⟨⟨?_, ?_, ?_, ?_⟩, fun t ht => ?_, fun m hm => ?_, fun s hs => ?_, fun k hk => ?_⟩
      · rw [k2 _ _ (by decide)]; exact d1
      · rw [k2 _ _ (by decide)]; exact d2
      · rw [k2 _ _ (by decide)]; exact d3
      · rw [k2 _ _ (by decide)]; exact d4
      · rw [k2 _ _ (by omega)]; exact d5 t ht
      · rw [k2 _ _ (by omega), k2 _ _ (by omega)]; exact d6 m hm
      · rw [k2 _ _ (by omega)]; exact d7 s hs
      · rw [k2 _ _ (by omega), k2 _ _ (by omega), k2 _ _ (by omega), k2 _ _ (by omega), k2 _ _ (by omega)]; exact d8 k hk
    obtain ⟨O3, e3, f3, mT3, mS3, mI3, mN3⟩ := n_keepDraft 31 D2 hTp
    have e3 : ex 39 125 0 [some (vr 7 0 0)] [] O2 = some (nI 0, O3) := e3
    rw [k2 0 25 (by decide), r25, if_neg (by decide), e3] at s44
    simp only [Option.bind_some] at s44
    rw [hx] at e1 s44
    have g : ∀ p j, p ≠ 2 → p ≠ 4 → p ≠ 5 → p ≠ 7 → p ≠ 9 → p ≠ 19 → p ≠ 28 → p ≠ 38 → p ≠ 11 → p ≠ 13 → p ≠ 14 → p ≠ 16 → p ≠ 18 → (p = 0 → 40 < j) → O3 7 0 p j = O 7 0 p j := fun p j a1 a2 a3 a4 a5 a6 a7 a8 b1 b2 b3 b4 b5 z => (f3.2 p j a1 a2 a3 a4 a5 a6 a7 a8 (by omega)).trans ((k2 p j (by omega)).trans (k1 p j b1 b2 b3 b4 b5 (by omega)))
    have g0 : ∀ j, j ≠ 0 ∧ j ≠ 2 ∧ j ≠ 5 ∧ j ≠ 7 ∧ j ≠ 28 ∧ j ≠ 33 ∧ j ≠ 34 → O3 7 0 0 j = O2 7 0 0 j := fun j h => f3.2 0 j (by decide) (by decide) (by decide) (by decide) (by decide) (by decide) (by decide) (by decide) (fun _ => h)
    refine ⟨O3, e1.trans s44, ⟨mT3, mS3, mI3, mN3, ⟨?_, fun j hj => absurd hj (Nat.not_lt_zero j)⟩, ?_, ?_, ?_⟩, fun c z => funext fun q => (f3.1 c q (Or.inl z)).trans (r2 c q (Or.inl z))⟩
    · rw [g0 _ (by decide), q2, up_eq]; rfl
    · rw [g0 _ (by decide), k2 _ _ (by decide)]; exact r25
    · exact mSh.of fun p q a b => g p q (by omega) (by omega) (by omega) (by omega) (by omega) (by omega) (by omega) (by omega) (by omega) (by omega) (by omega) (by omega) (by omega) (by omega)
    · rw [g _ _ (by decide) (by decide) (by decide) (by decide) (by decide) (by decide) (by decide) (by decide) (by decide) (by decide) (by decide) (by decide) (by decide) (by decide)]; exact mt
theorem q_text : Cal 69 140 [] := fun O A hw hc hm => by
  obtain ⟨O1, e1, w1, c1, h7, h8⟩ := c_text hw hc
  obtain ⟨O2, e2, m2, k2⟩ := n_text (O := O1) hw (by rw [h7]; exact hm)
  exact ⟨_, _, O1, w1, e1, c1, h7, h8, O2, e2, m2, k2⟩
end
