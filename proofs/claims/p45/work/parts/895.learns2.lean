/-! THE LAW'S OWN MINDS: a showing, all kinds. -/
section
variable {T : Td_} {O : Mem_} {k s t i f : Nat} {so : Bool} {μ : Mi_}
theorem thk_is : thk T k s t so f μ = prd T k s t so (crf T k (chs T f k s μ.1) (lsk T k (chs T f k s μ.1) (plainest T (chs T f k s μ.1)) μ.2.2.1)) μ := by
  unfold thk prd crf lsk
  dsimp only
  by_cases h1 : so_ T k = 1
  · simp only [if_pos h1, if_neg (show ¬ so_ T k = 2 by omega), if_neg (show ¬ so_ T k = 3 by omega)]
  · by_cases h2 : so_ T k = 2
    · simp only [if_neg h1, if_pos h2, if_neg (show ¬ so_ T k = 3 by omega)]
    · by_cases h3 : so_ T k = 3
      · simp only [if_neg h1, if_neg h2, if_pos h3]
      · simp only [if_neg h1, if_neg h2, if_neg h3]
theorem pl_lt {b m : Nat} (h : plainest T b = some m) : m < nM T := (plainest_lt h).1
theorem l_learns (d : Nat) (hT : WT T) (hB : LB T) (la : LA T (O 7 0)) (hk : k < nK T) (hs : s < nS T) (ht : t < nT T) (hf : f < 2 ^ nM T) (hw : WMi T μ) (hi : IV T μ) (h : KS (O 7 0) k μ) : ∃ O', ex (d + 3) 132 0 [some (vr 7 0 8), some (vr 7 0 2), some (vr 7 0 4), some (vr 7 0 5), some (vi (nI k)), some (vi (nI i)), some (vi (nI s)), some (vi (nI t)), some (vi (bI so)), some (vi (nI f))] [] O = some (nI 0, O') ∧ U8 k O O' ∧ KS (O' 7 0) k (see1 T k s t so i f μ) := by
  obtain ⟨b1, b2, b3, b4, b5, b6, b7, b8⟩ := hB
  have hB : LB T := ⟨b1, b2, b3, b4, b5, b6, b7, b8⟩
  obtain ⟨r0, r1, r2, r3, r4, r5⟩ := la.2.2.2.2 k hk
  have st := sL_learns_0 (d + 2) O (nI k) (nI i) (nI s) (nI t) (bI so) (nI f)
  rw [pk_mul, pk_mul, nI_add, nI_add, nI_add, if_pos (ib_n (by omega) (by decide)), if_pos (ib_n (by omega) (by decide)), if_pos (ib_n (by omega) (by decide)), nI_clamp (by omega), nI_clamp (by omega), nI_clamp (by omega), h.2.2, r2, r5] at st
  unfold see1
  cases hfl : μ.2.2.2 with
  | some j =>
    have hj := hw.2.2.2 j hfl
    rw [hfl, if_neg (show ¬ oI (some j) < nI 0 from oI_neg (by omega))] at st
    exact ⟨O, st, U8.rf, by rw [if_pos (show (some j).isSome = true from rfl)]; exact h⟩
  | none =>
    rw [hfl, if_pos oI_lt0] at st
    rw [if_neg (by decide)]
    by_cases cf : fe_ T k = some t
    · rw [if_pos cf]
      rw [cf, if_pos (show oI (some t) = nI t from rfl)] at st
      obtain ⟨O1, e, u, hq⟩ := lp_i (fun q (O : Mem_) => ex (d + 3) 132 35 [some (vr 7 0 8), none, none, none, none, some (vi (nI i)), none, none, none, none, some (vi (nI (10 * k))), some (vi (nI q))] [] O) (fun q O' => U8 k O O' ∧ (∀ j, j < q → O' 7 0 8 (10 * k + j) = if j < 4 then oI none else nI 0) ∧ O' 7 0 8 (10 * k + 8) = oI μ.2.2.1) 8 (fun q O' hq ⟨u, hj, h8⟩ => by
        have s2 := sL_learns_35 (d + 2) O' (nI i) (nI (10 * k)) (nI q)
        rw [if_pos (by rw [nI_ltI (by omega) (by omega)]; exact hq), nI_add, nI_add, if_pos (ib_n (by omega) (by decide)), if_pos (ib_n (by omega) (by decide)), nI_clamp (by omega)] at s2
        have fin : ∀ v, v = (if q < 4 then oI none else nI 0) → ex (d + 3) 132 35 [some (vr 7 0 8), none, none, none, none, some (vi (nI i)), none, none, none, none, some (vi (nI (10 * k))), some (vi (nI q))] [] O' = ex (d + 3) 132 35 [some (vr 7 0 8), none, none, none, none, some (vi (nI i)), none, none, none, none, some (vi (nI (10 * k))), some (vi (nI (q + 1)))] [] (up O' 7 0 8 (10 * k + q) v) → ∃ O2, ex (d + 3) 132 35 [some (vr 7 0 8), none, none, none, none, some (vi (nI i)), none, none, none, none, some (vi (nI (10 * k))), some (vi (nI q))] [] O' = ex (d + 3) 132 35 [some (vr 7 0 8), none, none, none, none, some (vi (nI i)), none, none, none, none, some (vi (nI (10 * k))), some (vi (nI (q + 1)))] [] O2 ∧ U8 k O O2 ∧ (∀ j, j < q + 1 → O2 7 0 8 (10 * k + j) = if j < 4 then oI none else nI 0) ∧ O2 7 0 8 (10 * k + 8) = oI μ.2.2.1 := fun v hv e1 => by
          refine ⟨_, e1, u.u ⟨by omega, by omega⟩, fun j hj2 => ?_, by rw [up_ne (by omega)]; exact h8⟩
          by_cases z : j = q
          · rw [z, up_eq, hv]
          · rw [up_ne (by omega)]; exact hj j (by omega)
        by_cases c4 : q < 4
        · rw [if_pos (by rw [nI_ltI (by omega) (by omega)]; exact c4)] at s2
          exact fin _ (by rw [if_pos c4]) s2
        · rw [if_neg (by rw [nI_ltI (by omega) (by omega)]; exact c4)] at s2
          exact fin _ (by rw [if_neg c4]) s2) O ⟨U8.rf, fun j hj => absurd hj (Nat.not_lt_zero j), h.2.1⟩
      have s3 := sL_learns_35 (d + 2) O1 (nI i) (nI (10 * k)) (nI 8)
      rw [if_neg (by decide), nI_add, if_pos (ib_n (by omega) (by decide)), nI_clamp (by omega)] at s3
      refine ⟨_, st.trans (e.trans s3), u.u ⟨by omega, by omega⟩, fun q hq4 => ⟨?_, ?_⟩, ?_, ?_⟩
      · rw [up_ne (by omega), hq.1 q (by omega), if_pos hq4]
      · have := hq.1 (4 + q) (by omega)
        rw [← Nat.add_assoc, if_neg (by omega)] at this
        rw [up_ne (by omega)]
        exact this
      · rw [up_ne (by omega)]; exact hq.2
      · rw [up_eq]; rfl
    · rw [if_neg cf]
      rw [if_neg (by
        intro e
        refine cf ((oI_inj (fun x hx => ?_) (fun x hx => ?_)).mp (e.trans (show nI t = oI (some t) from rfl)))
        · have := (hT.2.2.2.2.2.2.2.2 k x hx); omega
        · cases hx; omega), q_and] at st
      have s2 := c94 d (s := s) (t := t) (so := so) hT hB la hk hs hf hw hi h
      have hcl := chs_lt (k := k) (s := s) (th := μ.1) hT hf
      have hp : ∀ m, lsk T k (chs T f k s μ.1) (plainest T (chs T f k s μ.1)) μ.2.2.1 = some m → m < nM T := fun m e => by
        unfold lsk at e
        split at e
        · split at e
          · exact hw.2.2.1 m e
          · exact pl_lt e
        · exact pl_lt e
      have s3 := c225 (d + 2) (s := s) (t := t) (so := so) (p := lsk T k (chs T f k s μ.1) (plainest T (chs T f k s μ.1)) μ.2.2.1) hT hB la hk hcl hp (oI (μ.1 s))
      have hp2 : ∀ m, crf T k (chs T f k s μ.1) (lsk T k (chs T f k s μ.1) (plainest T (chs T f k s μ.1)) μ.2.2.1) = some m → m < nM T := fun m e => by
        unfold crf at e
        split at e
        · split at e
          · exact hp m e
          · cases e
        · exact hp m e
      obtain ⟨O', e4, u4, k4⟩ := c301 (d + 2) (so := so) hT hB la hk hs ht hp2 hw hi h
      refine ⟨O', st.trans (s2.trans (s3.trans e4)), u4, ?_⟩
      unfold look1
      rw [thk_is]
      exact k4
end
