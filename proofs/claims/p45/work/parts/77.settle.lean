/-! THE CLASS SETTLES A DRAFT. -/
section
variable {T : Td_} {w : Nat}
/-- what settling changes -/
def G4 (w : Nat) (O O' : Mem_) : Prop := Ro 4 w O O' ∧ ∀ p j, p ≠ 6 → p ≠ 10 → p ≠ 11 → p ≠ 12 → p ≠ 19 → O' 4 w p j = O 4 w p j
theorem G4.rfl {w : Nat} {O : Mem_} : G4 w O O := ⟨Ro.rfl, fun _ _ _ _ _ _ _ => Eq.refl _⟩
theorem G4.trans {w : Nat} {O O' O2 : Mem_} (h : G4 w O O') (g : G4 w O' O2) : G4 w O O2 := ⟨h.1.trans g.1, fun p j a b c e f => (g.2 p j a b c e f).trans (h.2 p j a b c e f)⟩
theorem G4.up {p j : Nat} {v : Int32} {O : Mem_} (hp : p = 6 ∨ p = 10 ∨ p = 11 ∨ p = 12 ∨ p = 19) : G4 w O (up O 4 w p j v) := ⟨Ro.rfl.up, fun p' q a b c e f => up_ne (by omega)⟩
theorem CD.g4 {O O' : Mem_} (h : CD (O 4 w) T) (g : G4 w O O') : CD (O' 4 w) T := by
  obtain ⟨⟨h1, h2, h3, h4⟩, h5, h6, h7, h8⟩ := h
  have e : ∀ p j, p ≠ 6 ∧ p ≠ 10 ∧ p ≠ 11 ∧ p ≠ 12 ∧ p ≠ 19 → O' 4 w p j = O 4 w p j := fun p j z => g.2 p j z.1 z.2.1 z.2.2.1 z.2.2.2.1 z.2.2.2.2
  refine ⟨⟨?_, ?_, ?_, ?_⟩, fun t ht => ?_, fun m hm => ?_, fun s hs => ?_, fun k hk => ?_⟩
  · rw [e _ _ (by decide)]; exact h1
  · rw [e _ _ (by decide)]; exact h2
  · rw [e _ _ (by decide)]; exact h3
  · rw [e _ _ (by decide)]; exact h4
  · rw [e _ _ (by decide)]; exact h5 t ht
  · rw [e _ _ (by decide), e _ _ (by decide), e _ _ (by decide)]; exact h6 m hm
  · rw [e _ _ (by decide)]; exact h7 s hs
  · rw [e _ _ (by decide), e _ _ (by decide), e _ _ (by decide), e _ _ (by decide), e _ _ (by decide)]; exact h8 k hk
theorem isA_iff {m t : Nat} : isA T m t = true ↔ mk_ T t &&& hs_ T m = hs_ T m ∧ mk_ T t &&& hn_ T m = 0 := by
  unfold isA
  rw [Bool.and_eq_true, beq_iff_eq, beq_iff_eq]
theorem c_settle1 (d : Nat) (hT : WT T) {O : Mem_} (hD : CD (O 4 w) T) : ∃ O', ex (d + 1) 41 0 [some (vr 4 w 0)] [] O = ex (d + 1) 41 25 [some (vr 4 w 0), some (vi (nI 0))] [] O' ∧ G4 w O O' ∧ ∀ t, t < nT T → O' 4 w 6 t = nI 0 := by
  have h8 := hT.1
  obtain ⟨O', e, g, z⟩ := lp_i (fun t (O : Mem_) => ex (d + 1) 41 2 [some (vr 4 w 0), some (vi (nI t))] [] O) (fun t O' => G4 w O O' ∧ ∀ q, q < t → O' 4 w 6 q = nI 0) (nT T) (fun t O' ht ⟨g, z⟩ => by
    refine ⟨up O' 4 w 6 t (nI 0), (sX4_settle_2 ..).trans ?_, g.trans (G4.up (by decide)), fun q hq => ?_⟩
    · rw [(hD.g4 g).1.1, if_pos (nI_lt ht (by omega)), if_pos (ib_n (by omega) (by decide)), nI_clamp (by omega), nI_add]
    · by_cases y : q = t
      · rw [y, up_eq]
      · rw [up_ne (by omega)]; exact z q (by omega)) O ⟨G4.rfl, fun q hq => absurd hq (Nat.not_lt_zero q)⟩
  refine ⟨O', (sX4_settle_0 ..).trans (e.trans ((sX4_settle_2 ..).trans ?_)), g, z⟩
  rw [(hD.g4 g).1.1, if_neg (nI_nlt (Nat.le_refl _) (by omega))]
theorem c_settle2 (d : Nat) (hT : WT T) {O : Mem_} (hD : CD (O 4 w) T) (h0 : ∀ t, t < nT T → O 4 w 6 t = nI 0) : ∃ O', ex (d + 1) 41 25 [some (vr 4 w 0), some (vi (nI 0))] [] O = ex (d + 1) 41 126 [some (vr 4 w 0), some (vi (nI 0))] [] O' ∧ G4 w O O' ∧ (∀ t, t < nT T → O' 4 w 6 t = nI (isIt T t)) ∧ ∀ m, m < nM T → O' 4 w 10 m = nI (are T m) := by
  have h8 := hT.1
  have h12 := hT.2.1
  obtain ⟨O', e, g, z1, z2⟩ := lp_i (fun m (O : Mem_) => ex (d + 1) 41 25 [some (vr 4 w 0), some (vi (nI m))] [] O) (fun m O' => G4 w O O' ∧ (∀ t, t < nT T → O' 4 w 6 t = nI (ms m (fun q => isA T q t))) ∧ ∀ q, q < m → O' 4 w 10 q = nI (are T q)) (nM T) (fun m O' hm ⟨g, z1, z2⟩ => by
    obtain ⟨O2, e2, g2, y1, y2, y3⟩ := lp_i (fun t (O : Mem_) => ex (d + 1) 41 42 [some (vr 4 w 0), some (vi (nI m)), some (vi (nI t))] [] O) (fun t O2 => G4 w O O2 ∧ (∀ q, q < nT T → O2 4 w 6 q = nI (ms (if q < t then m + 1 else m) (fun x => isA T x q))) ∧ O2 4 w 10 m = nI (ms t (fun q => isA T m q)) ∧ ∀ q, q < m → O2 4 w 10 q = nI (are T q)) (nT T) (fun t O2 ht ⟨g2, y1, y2, y3⟩ => by
      have D2 := hD.g4 g2
      have hmt := D2.2.1 t ht
      have hmm := D2.2.2.1 m hm
      have y1t : O2 4 w 6 t = nI (ms m (fun x => isA T x t)) := by
        have := y1 t ht
        rwa [if_neg (Nat.lt_irrefl t)] at this
      have st := sX4_settle_42 d O2 w (nI m) (nI t)
      have b5 : mk_ T t &&& hs_ T m < 2 ^ 31 := Nat.lt_of_le_of_lt Nat.and_le_left (by have := hT.2.2.2.2.1 t; omega)
      have b6 : mk_ T t &&& hn_ T m < 2 ^ 31 := Nat.lt_of_le_of_lt Nat.and_le_left (by have := hT.2.2.2.2.1 t; omega)
      have b7 := (hT.2.2.2.2.2.1 m).1
      have it : ib (nI t) 8 = true := ib_n (by omega) (by decide)
      have im : ib (nI m) 12 = true := ib_n (by omega) (by decide)
      have ct : Int32.toNatClampNeg (nI t) = t := nI_clamp (by omega)
      have cm : Int32.toNatClampNeg (nI m) = m := nI_clamp (by omega)
      rw [D2.1.1, if_pos (nI_lt ht (by omega))] at st
      simp only [it, im, if_true, ct, cm, hmt, hmm.1, hmm.2.1, q_and, nI_add] at st
      have c1 : (nI (mk_ T t &&& hs_ T m) = nI (hs_ T m)) ↔ mk_ T t &&& hs_ T m = hs_ T m := nI_eq b5 (by omega)
      have c2 : (nI (mk_ T t &&& hn_ T m) = nI 0) ↔ mk_ T t &&& hn_ T m = 0 := nI_eq b6 (by decide)
      by_cases hA : isA T m t = true
      · obtain ⟨a1, a2⟩ := isA_iff.mp hA
        rw [if_pos (c1.mpr a1), if_pos (c2.mpr a2), q_shl t (by omega), q_shl m (by omega), y2, up_ne (by omega), y1t, q_or, q_or] at st
        refine ⟨up (up O2 4 w 10 m (nI (ms t (fun q => isA T m q) ||| 2 ^ t))) 4 w 6 t (nI (ms m (fun x => isA T x t) ||| 2 ^ m)), st, (g2.trans (G4.up (by decide))).trans (G4.up (by decide)), fun q hq => ?_, ?_, fun q hq => ?_⟩
        · by_cases x : q = t
          · rw [x, up_eq, if_pos (Nat.lt_succ_self t), ms_s, hA, if_pos rfl]
          · rw [up_ne (by omega), up_ne (by omega), y1 q hq]
            congr 2
            by_cases u : q < t
            · rw [if_pos u, if_pos (by omega)]
            · rw [if_neg u, if_neg (by omega)]
        · rw [up_ne (by omega), up_eq, ms_s, hA, if_pos rfl]
        · rw [up_ne (by omega), up_ne (by omega)]; exact y3 q hq
      · have hA' := bool_ne hA
        have st2 : ex (d + 1) 41 42 [some (vr 4 w 0), some (vi (nI m)), some (vi (nI t))] [] O2 = ex (d + 1) 41 42 [some (vr 4 w 0), some (vi (nI m)), some (vi (nI (t + 1)))] [] O2 := by
          refine st.trans ?_
          by_cases a1 : mk_ T t &&& hs_ T m = hs_ T m
          · rw [if_pos (c1.mpr a1), if_neg (fun x => hA (isA_iff.mpr ⟨a1, c2.mp x⟩))]
          · rw [if_neg (fun x => a1 (c1.mp x))]
        refine ⟨O2, st2, g2, fun q hq => ?_, ?_, y3⟩
        · rw [y1 q hq]
          congr 1
          by_cases x : q = t
          · subst x
            rw [if_neg (Nat.lt_irrefl _), if_pos (Nat.lt_succ_self _), ms_s, hA', if_neg (by decide)]
          · congr 1
            by_cases u : q < t
            · rw [if_pos u, if_pos (by omega)]
            · rw [if_neg u, if_neg (by omega)]
        · rw [y2, ms_s, hA', if_neg (by decide)]) (up O' 4 w 10 m (nI 0)) ⟨g.trans (G4.up (by decide)), fun q hq => by rw [up_ne (by omega), z1 q hq]; rfl, up_eq .., fun q hq => by rw [up_ne (by omega)]; exact z2 q hq⟩
    have D1 := hD.g4 g
    refine ⟨O2, (sX4_settle_25 ..).trans ?_, g2, fun t ht => ?_, fun q hq => ?_⟩
    · rw [D1.1.2.1, if_pos (nI_lt hm (by omega)), if_pos (ib_n (by omega) (by decide)), nI_clamp (by omega)]
      refine e2.trans ((sX4_settle_42 ..).trans ?_)
      rw [(hD.g4 g2).1.1, if_neg (nI_nlt (Nat.le_refl _) (by omega)), nI_add]
    · rw [y1 t ht, if_pos ht]
    · by_cases x : q = m
      · rw [x, y2]; rfl
      · exact y3 q (by omega)) O ⟨G4.rfl, fun t ht => h0 t ht, fun q hq => absurd hq (Nat.not_lt_zero q)⟩
  refine ⟨O', e.trans ((sX4_settle_25 ..).trans ?_), g, z1, z2⟩
  rw [(hD.g4 g).1.2.1, if_neg (nI_nlt (Nat.le_refl _) (by omega))]
theorem c_settle3 (d : Nat) (hT : WT T) {O : Mem_} (hD : CD (O 4 w) T) : ∃ O', ex (d + 1) 41 126 [some (vr 4 w 0), some (vi (nI 0))] [] O = ((ex d 42 0 [some (vr 4 w 0)] [] O').bind fun r0 => some (nI 0, r0.2)) ∧ G4 w O O' ∧ (∀ p j, p ≠ 19 → O' 4 w p j = O 4 w p j) ∧ ∀ k, k < nK T → O' 4 w 19 k = nI (can T k) := by
  have h6 := hT.2.2.2.1
  have h12 := hT.2.1
  obtain ⟨O', e, g, z1, z2⟩ := lp_i (fun k (O : Mem_) => ex (d + 1) 41 126 [some (vr 4 w 0), some (vi (nI k))] [] O) (fun k O' => G4 w O O' ∧ (∀ p j, p ≠ 19 → O' 4 w p j = O 4 w p j) ∧ ∀ q, q < k → O' 4 w 19 q = nI (can T q)) (nK T) (fun k O' hk ⟨g, z1, z2⟩ => by
    obtain ⟨O2, e2, g2, y1, y2, y3⟩ := lp_i (fun m (O : Mem_) => ex (d + 1) 41 143 [some (vr 4 w 0), some (vi (nI k)), some (vi (nI m))] [] O) (fun m O2 => G4 w O O2 ∧ (∀ p j, p ≠ 19 → O2 4 w p j = O 4 w p j) ∧ O2 4 w 19 k = nI (ms m (fun m => dn (hs_ T m ||| hn_ T m) (se_ T k) == 0)) ∧ ∀ q, q < k → O2 4 w 19 q = nI (can T q)) (nM T) (fun m O2 hm ⟨g2, y1, y2, y3⟩ => by
      have D2 := hD.g4 g2
      have hmm := D2.2.2.1 m hm
      have hkk := D2.2.2.2.2 k hk
      have st := sX4_settle_143 d O2 w (nI k) (nI m)
      have b7 := hT.2.2.2.2.2.1 m
      have b5 : hs_ T m ||| hn_ T m < 2 ^ 8 := Nat.or_lt_two_pow b7.1 b7.2.1
      have b6 := dn_le (hs_ T m ||| hn_ T m) (se_ T k)
      have ik : ib (nI k) 6 = true := ib_n (by omega) (by decide)
      have im : ib (nI m) 12 = true := ib_n (by omega) (by decide)
      have ck : Int32.toNatClampNeg (nI k) = k := nI_clamp (by omega)
      have cm : Int32.toNatClampNeg (nI m) = m := nI_clamp (by omega)
      rw [D2.1.2.1, if_pos (nI_lt hm (by omega))] at st
      simp only [ik, im, if_true, ck, cm, hmm.1, hmm.2.1, hkk.2.1, q_or, q_dn, nI_add, y2] at st
      have c1 : (nI (dn (hs_ T m ||| hn_ T m) (se_ T k)) = nI 0) ↔ dn (hs_ T m ||| hn_ T m) (se_ T k) = 0 := nI_eq (by omega) (by decide)
      by_cases a : dn (hs_ T m ||| hn_ T m) (se_ T k) = 0
      · rw [if_pos (c1.mpr a), q_shl m (by omega), q_or] at st
        refine ⟨_, st, g2.trans (G4.up (by decide)), fun p j hp => ?_, ?_, fun q hq => ?_⟩
        · rw [up_ne (by omega)]; exact y1 p j hp
        · rw [up_eq, ms_s, a]; rfl
        · rw [up_ne (by omega)]; exact y3 q hq
      · rw [if_neg (fun x => a (c1.mp x))] at st
        refine ⟨O2, st, g2, y1, ?_, y3⟩
        rw [y2, ms_s, beq_false_of_ne a]
        rfl) (up O' 4 w 19 k (nI 0)) ⟨g.trans (G4.up (by decide)), fun p j hp => by rw [up_ne (by omega)]; exact z1 p j hp, up_eq .., fun q hq => by rw [up_ne (by omega)]; exact z2 q hq⟩
    have D1 := hD.g4 g
    refine ⟨O2, (sX4_settle_126 ..).trans ?_, g2, y1, fun q hq => ?_⟩
    · rw [D1.1.2.2.2, if_pos (nI_lt hk (by omega)), if_pos (ib_n (by omega) (by decide)), nI_clamp (by omega)]
      refine e2.trans ((sX4_settle_143 ..).trans ?_)
      rw [(hD.g4 g2).1.2.1, if_neg (nI_nlt (Nat.le_refl _) (by omega)), nI_add]
    · by_cases x : q = k
      · rw [x, y2]; rfl
      · exact y3 q (by omega)) O ⟨G4.rfl, fun _ _ _ => rfl, fun q hq => absurd hq (Nat.not_lt_zero q)⟩
  refine ⟨O', e.trans ((sX4_settle_126 ..).trans ?_), g, z1, z2⟩
  rw [(hD.g4 g).1.2.2.2, if_neg (nI_nlt (Nat.le_refl _) (by omega))]
/-- the meanings placed so far -/
def plc (T : Td_) (a m : Nat) : List Nat := ((List.range a).flatMap fun a => (List.range (nM T)).filter fun m => asks T m == a) ++ (List.range m).filter fun m => asks T m == a
theorem plc_s {a m : Nat} : plc T a (m + 1) = plc T a m ++ if asks T m = a then [m] else [] := by
  unfold plc
  rw [List.range_succ, List.filter_append, ← List.append_assoc]
  congr 1
  by_cases z : asks T m = a
  · rw [if_pos z]; simp [z]
  · rw [if_neg z]; simp [z]
theorem plc_n {a : Nat} : plc T a (nM T) = plc T (a + 1) 0 := by
  unfold plc
  rw [List.range_succ, List.flatMap_append, List.flatMap_singleton]
  simp
theorem plc_le {a m : Nat} (ha : a < 9) (hm : m ≤ nM T) : (plc T a m).length ≤ nM T := by
  have h1 : ∀ r, (plc T a m).length ≤ (plc T a (m + r)).length := by
    intro r
    induction r with
    | zero => exact Nat.le_refl _
    | succ r ih => rw [← Nat.add_assoc, plc_s, List.length_append]; omega
  have h2 : ∀ r, (plc T a 0).length ≤ (plc T (a + r) 0).length := by
    intro r
    induction r with
    | zero => exact Nat.le_refl _
    | succ r ih =>
      rw [← Nat.add_assoc, ← plc_n]
      have : ∀ q x, (plc T x 0).length ≤ (plc T x (0 + q)).length := by
        intro q x
        induction q with
        | zero => exact Nat.le_refl _
        | succ q ih => rw [← Nat.add_assoc, plc_s, List.length_append]; omega
      have := this (nM T) (a + r)
      rw [Nat.zero_add] at this
      omega
  have h3 : plc T 9 0 = fpl T := by unfold plc fpl; simp
  have h4 : ∀ r x, (plc T x 0).length ≤ (plc T (x + r) 0).length := by
    intro r x
    induction r with
    | zero => exact Nat.le_refl _
    | succ r ih =>
      rw [← Nat.add_assoc, ← plc_n]
      have : ∀ q, (plc T (x + r) 0).length ≤ (plc T (x + r) (0 + q)).length := by
        intro q
        induction q with
        | zero => exact Nat.le_refl _
        | succ q ih => rw [← Nat.add_assoc, plc_s, List.length_append]; omega
      have := this (nM T)
      rw [Nat.zero_add] at this
      omega
  have a1 := h1 (nM T - m)
  rw [Nat.add_sub_cancel' hm, plc_n] at a1
  have a2 := h4 (9 - (a + 1)) (a + 1)
  rw [Nat.add_sub_cancel' ha, h3, fpl_len] at a2
  omega
theorem c_settle4 (d : Nat) (hT : WT T) {O : Mem_} (hD : CD (O 4 w) T) (hA : ∀ m, m < nM T → O 4 w 10 m = nI (are T m)) : ∃ O', ex (d + 1) 42 0 [some (vr 4 w 0)] [] O = some (nI 0, O') ∧ G4 w O O' ∧ (∀ p j, p ≠ 11 → p ≠ 12 → O' 4 w p j = O 4 w p j) ∧ (∀ m, m < nM T → O' 4 w 11 m = nI (alike T m)) ∧ ∀ m, m < nM T → O' 4 w 12 m = nI ((fpl T).getD m 0) := by
  have h12 := hT.2.1
  obtain ⟨O', e, g, z1, z2⟩ := lp_i (fun k (O : Mem_) => ex (d + 1) 42 2 [some (vr 4 w 0), some (vi (nI k))] [] O) (fun k O' => G4 w O O' ∧ (∀ p j, p ≠ 11 → O' 4 w p j = O 4 w p j) ∧ ∀ q, q < k → O' 4 w 11 q = nI (alike T q)) (nM T) (fun k O' hk ⟨g, z1, z2⟩ => by
    obtain ⟨O2, e2, g2, y1, y2, y3⟩ := lp_i (fun m (O : Mem_) => ex (d + 1) 42 19 [some (vr 4 w 0), some (vi (nI k)), some (vi (nI m))] [] O) (fun m O2 => G4 w O O2 ∧ (∀ p j, p ≠ 11 → O2 4 w p j = O 4 w p j) ∧ O2 4 w 11 k = nI (ms m (fun o => are T k == are T o)) ∧ ∀ q, q < k → O2 4 w 11 q = nI (alike T q)) (nM T) (fun m O2 hm ⟨g2, y1, y2, y3⟩ => by
      have D2 := hD.g4 g2
      have st := sX4_settleMeanings_19 d O2 w (nI k) (nI m)
      have ik : ib (nI k) 12 = true := ib_n (by omega) (by decide)
      have im : ib (nI m) 12 = true := ib_n (by omega) (by decide)
      have ck : Int32.toNatClampNeg (nI k) = k := nI_clamp (by omega)
      have cm : Int32.toNatClampNeg (nI m) = m := nI_clamp (by omega)
      have ak := are_lt hT k
      have am := are_lt hT m
      rw [D2.1.2.1, if_pos (nI_lt hm (by omega))] at st
      simp only [ik, im, if_true, ck, cm, y1 10 k (by decide), y1 10 m (by decide), hA k hk, hA m hm, nI_add, y2] at st
      have c1 : (nI (are T k) = nI (are T m)) ↔ are T k = are T m := nI_eq (by omega) (by omega)
      by_cases a : are T k = are T m
      · rw [if_pos (c1.mpr a), q_shl m (by omega), q_or] at st
        refine ⟨_, st, g2.trans (G4.up (by decide)), fun p j hp => ?_, ?_, fun q hq => ?_⟩
        · rw [up_ne (by omega)]; exact y1 p j hp
        · rw [up_eq, ms_s, a, beq_self_eq_true]; rfl
        · rw [up_ne (by omega)]; exact y3 q hq
      · rw [if_neg (fun x => a (c1.mp x))] at st
        refine ⟨O2, st, g2, y1, ?_, y3⟩
        rw [y2, ms_s, beq_false_of_ne a]
        rfl) (up O' 4 w 11 k (nI 0)) ⟨g.trans (G4.up (by decide)), fun p j hp => by rw [up_ne (by omega)]; exact z1 p j hp, up_eq .., fun q hq => by rw [up_ne (by omega)]; exact z2 q hq⟩
    have D1 := hD.g4 g
    refine ⟨O2, (sX4_settleMeanings_2 ..).trans ?_, g2, y1, fun q hq => ?_⟩
    · rw [D1.1.2.1, if_pos (nI_lt hk (by omega)), if_pos (ib_n (by omega) (by decide)), nI_clamp (by omega)]
      refine e2.trans ((sX4_settleMeanings_19 ..).trans ?_)
      rw [(hD.g4 g2).1.2.1, if_neg (nI_nlt (Nat.le_refl _) (by omega)), nI_add]
    · by_cases x : q = k
      · rw [x, y2]; rfl
      · exact y3 q (by omega)) O ⟨G4.rfl, fun _ _ _ => rfl, fun q hq => absurd hq (Nat.not_lt_zero q)⟩
  -- the meanings, plainest first
  have D1 := hD.g4 g
  obtain ⟨O3, e3, g3, x1, x2⟩ := lp_i (fun a (O : Mem_) => ex (d + 1) 42 70 [some (vr 4 w 0), some (vi (nI (plc T a 0).length)), some (vi (nI a))] [] O) (fun a O3 => G4 w O' O3 ∧ (∀ p j, p ≠ 12 → O3 4 w p j = O' 4 w p j) ∧ ∀ q, q < (plc T a 0).length → O3 4 w 12 q = nI ((plc T a 0).getD q 0)) 9 (fun a O3 ha ⟨g3, x1, x2⟩ => by
    obtain ⟨O4, e4, g4, y1, y2⟩ := lp_i (fun m (O : Mem_) => ex (d + 1) 42 78 [some (vr 4 w 0), some (vi (nI (plc T a m).length)), some (vi (nI a)), some (vi (nI m))] [] O) (fun m O4 => G4 w O' O4 ∧ (∀ p j, p ≠ 12 → O4 4 w p j = O' 4 w p j) ∧ ∀ q, q < (plc T a m).length → O4 4 w 12 q = nI ((plc T a m).getD q 0)) (nM T) (fun m O4 hm ⟨g4, y1, y2⟩ => by
      have D4 := D1.g4 g4
      have l1 := plc_le (T := T) ha (show m + 1 ≤ nM T by omega)
      have ls := plc_s (T := T) (a := a) (m := m)
      have st := sX4_settleMeanings_78 d O4 w (nI (plc T a m).length) (nI a) (nI m)
      have lc : asks T m ≤ 8 := cnt_le _ 8
      rw [D4.1.2.1, if_pos (nI_lt hm (by omega)), if_pos (ib_n (by omega) (by decide)), nI_clamp (show m < 2 ^ 31 by omega), (D4.2.2.1 m hm).2.2] at st
      by_cases z : asks T m = a
      · rw [if_pos z] at ls
        have ll : (plc T a (m + 1)).length = (plc T a m).length + 1 := by rw [ls, List.length_append, List.length_singleton]
        rw [if_pos (by rw [z]), if_pos (nI_lt (show (plc T a m).length < 12 by omega) (by decide)), if_pos (ib_n (by omega) (by decide)), nI_clamp (by omega), nI_add, nI_add, ← ll] at st
        refine ⟨_, st, g4.trans (G4.up (by decide)), fun p j hp => ?_, fun q hq => ?_⟩
        · rw [up_ne (by omega)]; exact y1 p j hp
        · rw [ls]
          by_cases y : q = (plc T a m).length
          · rw [y, up_eq, gd_last]
          · rw [up_ne (by omega), gd_old (by omega)]
            exact y2 q (by omega)
      · rw [if_neg z, List.append_nil] at ls
        rw [if_neg (by rw [nI_eq (by omega) (by omega)]; exact z), nI_add] at st
        exact ⟨O4, by rw [ls]; exact st, g4, y1, by rw [ls]; exact y2⟩) O3 ⟨g3, x1, x2⟩
    rw [plc_n] at e4 y2
    refine ⟨O4, (sX4_settleMeanings_70 ..).trans ?_, g4, y1, y2⟩
    rw [if_neg (nI_nlt (show a ≤ 8 by omega) (by decide))]
    refine e4.trans ((sX4_settleMeanings_78 ..).trans ?_)
    rw [(D1.g4 g4).1.2.1, if_neg (nI_nlt (Nat.le_refl _) (by omega)), nI_add]) O' ⟨G4.rfl, fun _ _ _ => rfl, fun q hq => absurd hq (Nat.not_lt_zero q)⟩
  have h9 : plc T 9 0 = fpl T := by unfold plc fpl; simp
  rw [h9, fpl_len] at x2
  refine ⟨O3, ?_, g.trans g3, fun p j a c => (x1 p j c).trans (z1 p j a), fun m hm => (x1 11 m (by decide)).trans (z2 m hm), fun m hm => x2 m hm⟩
  refine (sX4_settleMeanings_0 ..).trans (e.trans ((sX4_settleMeanings_2 ..).trans ?_))
  rw [D1.1.2.1, if_neg (nI_nlt (Nat.le_refl _) (by omega))]
  refine e3.trans ((sX4_settleMeanings_70 ..).trans ?_)
  rw [if_pos (by decide)]
theorem c_settle (d : Nat) (hT : WT T) {O : Mem_} (hD : CD (O 4 w) T) : ∃ O', ex (d + 2) 41 0 [some (vr 4 w 0)] [] O = some (nI 0, O') ∧ Ro 4 w O O' ∧ CT (O' 4 w) T := by
  obtain ⟨O1, e1, g1, z1⟩ := c_settle1 (d + 1) hT hD
  obtain ⟨O2, e2, g2, i2, a2⟩ := c_settle2 (d + 1) hT (hD.g4 g1) z1
  have D2 := (hD.g4 g1).g4 g2
  obtain ⟨O3, e3, g3, p3, n3⟩ := c_settle3 (d + 1) hT D2
  have D3 := D2.g4 g3
  obtain ⟨O4, e4, g4, p4, l4, f4⟩ := c_settle4 d hT D3 (fun m hm => (p3 10 m (by decide)).trans (a2 m hm))
  obtain ⟨h1, h5, h6, h7, h8⟩ := D3.g4 g4
  refine ⟨O4, ?_, ((g1.1.trans g2.1).trans g3.1).trans g4.1, h1, fun t ht => ⟨h5 t ht, ?_⟩, fun m hm => ⟨(h6 m hm).1, (h6 m hm).2.1, (h6 m hm).2.2, ?_, l4 m hm, f4 m hm⟩, h7, fun k hk => ⟨(h8 k hk).1, (h8 k hk).2.1, (h8 k hk).2.2.1, (h8 k hk).2.2.2.1, (h8 k hk).2.2.2.2, ?_⟩⟩
  · refine e1.trans (e2.trans (e3.trans ?_))
    rw [e4]
    rfl
  · rw [p4 6 t (by decide) (by decide), p3 6 t (by decide)]; exact i2 t ht
  · rw [p4 10 m (by decide) (by decide), p3 10 m (by decide)]; exact a2 m hm
  · rw [p4 19 k (by decide) (by decide)]; exact n3 k hk
end
