/-! THE CLASS'S text. -/
section
/-- the scene behind a text -/
def sc0 (T : Td_) : Sc_ := (0, fun _ => (0, 0, false), 2 ^ nK T - 1, 0, fun _ => (0, false))
theorem sc0_ok {T : Td_} : WSc T (sc0 T) := ⟨Nat.zero_le _, fun j hj => absurd hj (Nat.not_lt_zero j), Nat.sub_lt (Nat.two_pow_pos _) (by decide), Nat.zero_le _, fun j hj => absurd hj (Nat.not_lt_zero j)⟩
/-- the state behind a text -/
def txA (A : A_) : Pr_ (Td_ × Nat) → A_
  | .ok p => (p.1, sc0 p.1, fun _ => none, (0, A.2.2.2.1.2), 0, A.2.2.2.2.2)
  | .error e => (A.1, A.2.1, A.2.2.1, (0, A.2.2.2.1.2), e.1, A.2.2.2.2.2)
def txR : Pr_ (Td_ × Nat) → Int32
  | .ok p => nI p.2
  | .error e => (-10) - nI e.2
theorem txA_ok {A : A_} {r : Pr_ (Td_ × Nat)} (hw : WA A) (hT : ∀ p, r = .ok p → WT p.1) (hE : ∀ e, r = .error e → e.1 < 6) : WA (txA A r) := by
  obtain ⟨w1, w2, w3, w4, w5, w6, w7⟩ := hw
  cases r with
  | ok p => exact ⟨hT p rfl, sc0_ok, (fun i c h => by cases h), ⟨Nat.zero_le _, w4.2⟩, (by decide : 0 < 10), w6, w7⟩
  | error e => exact ⟨w1, w2, w3, ⟨Nat.zero_le _, w4.2⟩, Nat.lt_of_lt_of_le (hE e rfl) (by decide), w6, w7⟩
theorem m_emptied (d : Nat) {T : Td_} {O : Mem_} {w : Nat} (hT : CT (O 4 w) T) (wT : WT T) (hB : CB (O 1 0)) : ∃ O', ex (d + 2) 13 0 [some (vr 1 0 0), some (vr 4 w 0)] [] O = some (nI 0, O') ∧ Ro 1 0 O O' ∧ CS (O' 1 0) (sc0 T) ∧ CB (O' 1 0) := by
  refine ⟨up (up (up O 1 0 0 0 (nI 0)) 1 0 0 5 (nI 0)) 1 0 0 4 (nI (2 ^ nK T - 1)), ?_, Ro.rfl.up.up.up, ⟨?_, fun j hj => absurd hj (Nat.not_lt_zero j), up_eq .., ?_, fun j hj => absurd hj (Nat.not_lt_zero j)⟩, fun j hj => ?_, fun j hj => ?_⟩
  · rw [sX1_empty_0, m_allKinds (O := up (up O 1 0 0 0 (nI 0)) 1 0 0 5 (nI 0)) d (by rw [up_row (Or.inl (by decide)), up_row (Or.inl (by decide))]; exact hT) wT]
    rfl
  · simp (disch := omega) only [up_ne, up_eq]; rfl
  · simp (disch := omega) only [up_ne, up_eq]; rfl
  · simp (disch := omega) only [up_ne]; exact hB.1 j hj
  · simp (disch := omega) only [up_ne]; exact hB.2 j hj
theorem RA.er {O : Mem_} {w : Nat} {r : Pr_ (Td_ × Nat)} (h : RA O w r) : ∀ e, r = .error e → e.1 < 6 := fun e he => by
  subst he
  exact h.2.2.2.1
theorem c_text (d : Nat) {O : Mem_} {A : A_} (hw : WA A) (hc : CI O A) : ∃ O1, ex (d + 9) 69 0 [some (vr 6 0 0)] [] O = some (txR (rdText A.2.2.2.1.2 A.2.2.2.1.1), O1) ∧ WA (txA A (rdText A.2.2.2.1.2 A.2.2.2.1.1)) ∧ CI O1 (txA A (rdText A.2.2.2.1.2 A.2.2.2.1.1)) ∧ O1 7 = O 7 ∧ O1 8 = O 8 := by
  obtain ⟨w, cw, c9, hT, hS, hI, hB, hM, hP, hF, hSh⟩ := hc
  have hw' := hw
  obtain ⟨wT, wS, wI, wP, wF, wSh, wt⟩ := hw
  obtain ⟨v, ⟨hv, hvw⟩, hs1, hs2⟩ : ∃ v, (v ≠ w ∧ ((v = 0 ∧ w = 1) ∨ (v = 1 ∧ w = 0))) ∧ sel (O 6 0 0 2) = v ∧ sel (O 6 0 0 1) = w := by
    rcases cw with ⟨rfl, h1, h2⟩ | ⟨rfl, h1, h2⟩
    · exact ⟨1, ⟨by decide, Or.inr ⟨rfl, rfl⟩⟩, h2, h1⟩
    · exact ⟨0, ⟨by decide, Or.inl ⟨rfl, rfl⟩⟩, h2, h1⟩
  obtain ⟨O1, e1, g1, r1⟩ := c_readText (w := v) d wP.1 wP.2 hP
  have er := r1.er
  have st := sX6_text_0 (d + 8) O
  rw [hs1] at st
  have e1 : ex (d + 8) 21 0 [some (vr 3 0 0), some (vr 4 v 0)] [] O = ex (d + 7 + 1) 21 72 [some (vr 3 0 0), some (vr 4 v 0)] [] O1 := e1
  have s72 := sX3_readInto_72 (d + 7) O1 v
  have k9 : ∀ c, c ≠ 3 → c ≠ 4 → O1 c = O c := fun c a b => funext fun q => g1.1 c q (Or.inl a) (Or.inl b)
  have kw : O1 4 w = O 4 w := g1.1 4 w (Or.inl (by decide)) (Or.inr hv.symm)
  cases hr : rdText A.2.2.2.1.2 A.2.2.2.1.1 with
  | error e =>
    rw [hr] at r1 er
    have r1 : CE O1 e := r1
    have hne := c_flt r1
    rw [if_neg hne, if_neg hne] at s72
    rw [e1, s72] at st
    simp only [Option.bind_some] at st
    rw [if_pos trivial, up_ne (by decide), r1.2.1] at st
    refine ⟨up O1 3 0 0 1 (nI 0), st, txA_ok hw' (fun p h => by cases h) er, ⟨w, ?_, ?_, ?_, ?_, ?_, ?_, ?_, ⟨up_eq .., fun j hj => absurd hj (Nat.not_lt_zero j)⟩, ?_, ?_⟩, ?_, ?_⟩
    · rw [up_row (Or.inl (by decide)), k9 6 (by decide) (by decide)]; exact cw
    · rw [up_row (Or.inl (by decide)), k9 6 (by decide) (by decide)]; exact c9
    · rw [up_row (Or.inl (by decide)), kw]; exact hT
    · rw [up_row (Or.inl (by decide)), k9 1 (by decide) (by decide)]; exact hS
    · intro i hi; rw [up_row (Or.inl (by decide)), k9 1 (by decide) (by decide)]; exact hI i hi
    · intro i hi; rw [up_row (Or.inl (by decide)), k9 1 (by decide) (by decide)]; exact hB i hi
    · rw [up_row (Or.inl (by decide)), k9 0 (by decide) (by decide)]; exact hM
    · rw [up_ne (by decide)]; exact r1.1
    · rw [up_row (Or.inl (by decide)), k9 2 (by decide) (by decide)]; exact hSh
    · funext q; rw [up_row (Or.inl (by decide)), k9 7 (by decide) (by decide)]
    · funext q; rw [up_row (Or.inl (by decide)), k9 8 (by decide) (by decide)]
  | ok p =>
    rw [hr] at r1 er
    obtain ⟨r2, r3, r4, r5⟩ := r1
    have hTp := rdText_ok hr
    obtain ⟨O2, e2, f2, d2⟩ := c_settle (d + 5) hTp r4
    have s3 : O2 3 = O1 3 := f2.at3
    have r22 : O2 3 0 0 2 = nI 0 := by rw [s3]; exact r2
    have e2 : ex (d + 7) 41 0 [some (vr 4 v 0)] [] O1 = some (nI 0, O2) := e2
    rw [if_pos r2, e2] at s72
    simp only [Option.bind_some] at s72
    rw [if_pos r22] at s72
    rw [e1, s72] at st
    simp only [Option.bind_some] at st
    rw [if_neg (by decide)] at st
    have o6 : O2 6 = O 6 := by
      rw [← k9 6 (by decide) (by decide)]
      exact funext fun q => f2 6 q (Or.inl (by decide))
    rw [up_row (Or.inl (by decide)), o6, hs1, hs2] at st
    obtain ⟨O4, q4⟩ : ∃ O4, O4 = up (up (up O2 3 0 0 1 (nI 0)) 6 0 0 1 (nI v)) 6 0 0 2 (nI w) := ⟨_, rfl⟩
    rw [← q4] at st
    obtain ⟨O5, q5⟩ : ∃ O5, O5 = up (up O4 1 1 0 8 (nI 0)) 1 2 0 8 (nI 0) := ⟨_, rfl⟩
    have s55 : ex (d + 9) 69 55 [some (vr 6 0 0), none, none, some (vi (nI 0))] [] O4 = ex (d + 9) 69 55 [some (vr 6 0 0), none, none, some (vi (nI 2))] [] O5 := by
      refine (sX6_text_55 (d + 8) ..).trans ?_
      rw [if_pos (by decide), if_pos (by decide)]
      refine (sX6_text_55 (d + 8) ..).trans ?_
      rw [if_pos (by decide), if_pos (by decide), q5]
      rfl
    have k5 : ∀ c, c ≠ 1 → O5 c = O4 c := fun c a => by
      rw [q5]; funext q; rw [up_row (Or.inl a), up_row (Or.inl a)]
    have k4 : ∀ c, c ≠ 3 → c ≠ 6 → O4 c = O2 c := fun c a b => by
      rw [q4]; funext q; rw [up_row (Or.inl b), up_row (Or.inl b), up_row (Or.inl a)]
    have k2 : ∀ c, c ≠ 4 → O2 c = O1 c := fun c a => funext fun q => f2 c q (Or.inl a)
    have sv : sel (nI v) = v := by rcases hvw with ⟨rfl, -⟩ | ⟨rfl, -⟩ <;> decide
    have sw : sel (nI w) = w := by rcases hvw with ⟨-, rfl⟩ | ⟨-, rfl⟩ <;> decide
    have o61 : O5 6 0 0 1 = nI v := by rw [k5 6 (by decide), q4, up_ne (by decide), up_eq]
    have o62 : O5 6 0 0 2 = nI w := by rw [k5 6 (by decide), q4, up_eq]
    have hT5 : CT (O5 4 v) p.1 := by rw [k5 4 (by decide), k4 4 (by decide) (by decide)]; exact d2
    have hB5 : ∀ i, i < 3 → CB (O5 1 i) := fun i hi => by
      have h1 := hB i hi
      have e : ∀ p j, p ≠ 0 → O5 1 i p j = O 1 i p j := fun p j hp => by
        rw [q5]
        have : (up (up O4 1 1 0 8 (nI 0)) 1 2 0 8 (nI 0)) 1 i p j = O4 1 i p j := by
          by_cases z : i = 2
          · subst z; rw [up_ne (by omega), up_row (Or.inr (by decide))]
          · rw [up_row (Or.inr z)]
            by_cases y : i = 1
            · subst y; rw [up_ne (by omega)]
            · rw [up_row (Or.inr y)]
        rw [this, k4 1 (by decide) (by decide), k2 1 (by decide), k9 1 (by decide) (by decide)]
      refine ⟨fun j hj => ?_, fun j hj => ?_⟩
      · rw [e _ _ (by decide)]; exact h1.1 j hj
      · rw [e _ _ (by decide)]; exact h1.2 j hj
    obtain ⟨O6, e6, f6, S6, B6⟩ := m_emptied (d + 6) hT5 hTp (hB5 0 (by decide))
    have k6 : ∀ c, c ≠ 1 → O6 c = O5 c := fun c a => funext fun q => f6 c q (Or.inl a)
    have hT6 : CT (O6 4 v) p.1 := by rw [k6 4 (by decide)]; exact hT5
    obtain ⟨O7, e7, f7, M7⟩ := m_blank (O := O6) (n := v) (i := 0) (d + 6) hT6 hTp
    have k7 : ∀ c, c ≠ 0 → O7 c = O6 c := fun c a => funext fun q => f7 c q (Or.inl a)
    have s2 := sX6_text_55 (d + 8) O5 (nI 2)
    rw [if_neg (by decide), o61, sv, e6] at s2
    simp only [Option.bind_some] at s2
    rw [k6 6 (by decide), o61, sv, e7] at s2
    simp only [Option.bind_some] at s2
    have o3 : ∀ j, j ≠ 1 → O7 3 0 0 j = O1 3 0 0 j := fun j hj => by
      rw [k7 3 (by decide), k6 3 (by decide), k5 3 (by decide), q4, up_row (Or.inl (by decide)), up_row (Or.inl (by decide)), up_ne (by omega), s3]
    rw [o3 4 (by decide), r3] at s2
    have kk : ∀ c, c ≠ 0 → c ≠ 1 → c ≠ 3 → c ≠ 4 → c ≠ 6 → O7 c = O c := fun c a0 a1 a3 a4 a6 => by
      rw [k7 c a0, k6 c a1, k5 c a1, k4 c a3 a6, k2 c a4, k9 c a3 a4]
    refine ⟨O7, (st.trans s55).trans s2, txA_ok hw' (fun p' h => by cases h; exact hTp) er, ⟨v, ?_, ?_, ?_, ?_, ?_, ?_, M7 _, ⟨?_, fun j hj => absurd hj (Nat.not_lt_zero j)⟩, ?_, ?_⟩, kk 7 (by decide) (by decide) (by decide) (by decide) (by decide), kk 8 (by decide) (by decide) (by decide) (by decide) (by decide)⟩
    · unfold CW
      rw [k7 6 (by decide), k6 6 (by decide), o61, o62, sv, sw]
      rcases hvw with ⟨rfl, rfl⟩ | ⟨rfl, rfl⟩
      · exact Or.inl ⟨rfl, rfl, rfl⟩
      · exact Or.inr ⟨rfl, rfl, rfl⟩
    · rw [k7 6 (by decide), k6 6 (by decide), k5 6 (by decide), q4, up_ne (by decide), up_ne (by decide), up_row (Or.inl (by decide)), o6]; exact c9
    · rw [k7 4 (by decide)]; exact hT6
    · rw [k7 1 (by decide)]; exact S6
    · intro i hi
      show O7 1 (1 + i) 0 8 = nI 0
      rw [k7 1 (by decide), f6 1 (1 + i) (Or.inr (by omega)), q5]
      rcases (by omega : i = 0 ∨ i = 1) with rfl | rfl
      · rw [up_row (Or.inr (by decide)), up_eq]
      · rw [up_eq]
    · intro i hi
      rw [k7 1 (by decide)]
      by_cases z : i = 0
      · rw [z]; exact B6
      · rw [f6 1 i (Or.inr z)]; exact hB5 i hi
    · rw [k7 3 (by decide), k6 3 (by decide), k5 3 (by decide), q4, up_row (Or.inl (by decide)), up_row (Or.inl (by decide)), up_eq]; rfl
    · rw [o3 2 (by decide)]; exact r2
    · rw [kk 2 (by decide) (by decide) (by decide) (by decide) (by decide)]; exact hSh
end
