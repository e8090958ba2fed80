/-! THE LAW'S EVENTS, one by one. -/
section
variable {L : Nat} {A : A_} {O : Mem_} {x10 x11 : Int32}
/-- the class answered and is at A', the law's rows are untouched -/
theorem LQ_.to {A' : A_} {O' : Mem_} (h : LQ_ L A x11 O) (hw : WA A') (hc : CI O' A') (e : A'.1 = A.1) (ei : A'.2.2.1 = A.2.2.1) (e7 : O' 7 = O 7) (e8 : O' 8 = O 8) : LQ_ L A' x11 O' := by
  obtain ⟨h1, h2, h3, h4, h5, h6, h7, h8⟩ := h
  refine ⟨hw, hc, by rw [e]; exact h3, by rw [e, e7]; exact h4, by rw [e8]; exact h5, by rw [ei]; exact h6, by rw [ei]; exact h7, fun c hc => ?_⟩
  rw [ei] at hc
  rw [e7]
  exact h8 c hc
theorem k_shown {e s t v : Nat} {b : Bool} {x13 : Int32} (h : LP_ L A x10 x11 O) (hn : A.2.1.1 < 20) (hs : s < nS A.1) (ht : t < nT A.1) (hv : v < 16) (hb : v < 7 → b = isTg A.1 s t) : ∃ A' O' y10, ex 10 218 429 [some (vr 8 0 0), some (vr 6 0 0), none, some (vr 7 0 2), some (vr 7 0 3), some (vr 7 0 4), some (vr 7 0 5), some (vr 7 0 7), some (vr 7 0 8), some (vr 7 0 9), some (vi x10), some (vi x11), some (vi (nI e)), some (vi x13), some (vi (nI s)), some (vi (nI t)), some (vi (nI v))] [vi (bI b)] O = ex 10 218 721 [some (vr 8 0 0), some (vr 6 0 0), none, some (vr 7 0 2), some (vr 7 0 3), some (vr 7 0 4), some (vr 7 0 5), some (vr 7 0 7), some (vr 7 0 8), some (vr 7 0 9), some (vi y10), some (vi x11), some (vi (nI e)), some (vi x13), none, some (vi (nI t))] [] O' ∧ A'.1 = A.1 ∧ LP_ L A' y10 x11 O' := by
  obtain ⟨hq, hn20, hx, sh⟩ := h
  have f7 : FrP 7 O (up (up (up O 7 0 7 (3 * A.2.1.1) (nI s)) 7 0 7 (3 * A.2.1.1 + 1) (nI t)) 7 0 7 (3 * A.2.1.1 + 2) (bI b)) := ((FrP.rf.u).u).u
  have hS : SH (up (up (up O 7 0 7 (3 * A.2.1.1) (nI s)) 7 0 7 (3 * A.2.1.1 + 1) (nI t)) 7 0 7 (3 * A.2.1.1 + 2) (bI b) 7 0) (upF A.2.1.2.1 A.2.1.1 (s, t, b)) (A.2.1.1 + 1) := fun j hj => by
    unfold upF
    by_cases z : j = A.2.1.1
    · rw [if_pos z, z]
      refine ⟨?_, ?_, ?_⟩
      · rw [up_ne (by omega), up_ne (by omega), up_eq]
      · rw [up_ne (by omega), up_eq]
      · rw [up_eq]
    · rw [if_neg z]
      obtain ⟨r1, r2, r3⟩ := sh j (by omega)
      refine ⟨?_, ?_, ?_⟩
      · rw [up_ne (by omega), up_ne (by omega), up_ne (by omega)]; exact r1
      · rw [up_ne (by omega), up_ne (by omega), up_ne (by omega)]; exact r2
      · rw [up_ne (by omega), up_ne (by omega), up_ne (by omega)]; exact r3
  have st := sL_law_429 9 O x10 x11 (nI e) x13 (nI s) (nI t) (nI v) (bI b)
  subst hx
  rw [pk_mul, nI_add, nI_add, nI_add, if_pos (ib_n (by omega) (by decide)), if_pos (ib_n (by omega) (by decide)), if_pos (ib_n (by omega) (by decide)), nI_clamp (by omega), nI_clamp (by omega), nI_clamp (by omega)] at st
  generalize up (up (up O 7 0 7 (3 * A.2.1.1) (nI s)) 7 0 7 (3 * A.2.1.1 + 1) (nI t)) 7 0 7 (3 * A.2.1.1 + 2) (bI b) = O1 at f7 hS st
  have hq1 := hq.fr (Or.inl rfl) f7
  have hw := hq1.1
  have hc := hq1.2.1
  have s502 : ∀ O2, ex 10 218 502 [some (vr 8 0 0), some (vr 6 0 0), none, some (vr 7 0 2), some (vr 7 0 3), some (vr 7 0 4), some (vr 7 0 5), some (vr 7 0 7), some (vr 7 0 8), some (vr 7 0 9), some (vi (nI (A.2.1.1 + 1))), some (vi x11), some (vi (nI e)), some (vi x13), none, some (vi (nI t))] [vi (nI (A.2.1.1 + 1))] O2 = ex 10 218 721 [some (vr 8 0 0), some (vr 6 0 0), none, some (vr 7 0 2), some (vr 7 0 3), some (vr 7 0 4), some (vr 7 0 5), some (vr 7 0 7), some (vr 7 0 8), some (vr 7 0 9), some (vi (nI (A.2.1.1 + 1))), some (vi x11), some (vi (nI e)), some (vi x13), none, some (vi (nI t))] [] O2 := fun O2 => (sL_law_502 ..).trans (if_pos rfl)
  by_cases c7 : v < 7
  · rw [if_pos (by rw [nI_ltI (by omega) (by omega)]; exact c7)] at st
    obtain ⟨O2, e2, w2, c2, q7, q8⟩ := a_teach hw hc hs ht (by omega)
    rw [e2] at st
    simp only [Option.bind_some] at st
    rw [← hb c7] at w2 c2
    exact ⟨(A.1, addS A.2.1 s t b, A.2.2), O2, _, st.trans (s502 O2), rfl, hq1.to w2 c2 rfl rfl q7 q8, by show A.2.1.1 + 1 ≤ 20; omega, rfl, by rw [q7]; exact hS⟩
  · rw [if_neg (by rw [nI_ltI (by omega) (by omega)]; exact c7)] at st
    obtain ⟨O2, e2, w2, c2, q7, q8⟩ := a_show hw hc (so := b) hs ht (by omega)
    have s499 : ex 10 218 499 [some (vr 8 0 0), some (vr 6 0 0), none, some (vr 7 0 2), some (vr 7 0 3), some (vr 7 0 4), some (vr 7 0 5), some (vr 7 0 7), some (vr 7 0 8), some (vr 7 0 9), some (vi (nI (A.2.1.1 + 1))), some (vi x11), some (vi (nI e)), some (vi x13), none, some (vi (nI t))] [vi (bI b), vi (nI t), vi (nI s), vr 6 0 0] O1 = ex 10 218 721 [some (vr 8 0 0), some (vr 6 0 0), none, some (vr 7 0 2), some (vr 7 0 3), some (vr 7 0 4), some (vr 7 0 5), some (vr 7 0 7), some (vr 7 0 8), some (vr 7 0 9), some (vi (nI (A.2.1.1 + 1))), some (vi x11), some (vi (nI e)), some (vi x13), none, some (vi (nI t))] [] O2 := by
      have z := sL_law_499 9 O1 (nI (A.2.1.1 + 1)) x11 (nI e) x13 (nI t) (bI b) (nI t) (nI s)
      rw [e2] at z
      exact z.trans (s502 O2)
    refine ⟨(A.1, addS A.2.1 s t b, A.2.2), O2, _, st.trans ?_, rfl, hq1.to w2 c2 rfl rfl q7 q8, by show A.2.1.1 + 1 ≤ 20; omega, rfl, by rw [q7]; exact hS⟩
    cases b with
    | true => rw [if_pos (show bI true = nI 1 from rfl)]; exact s499
    | false => rw [if_neg (by decide)]; exact s499
theorem k_undo {e t v : Nat} {x13 : Int32} (h : LP_ L A x10 x11 O) (hv : v < 13) : ∃ A' O' y10, ex 10 218 512 [some (vr 8 0 0), some (vr 6 0 0), none, some (vr 7 0 2), some (vr 7 0 3), some (vr 7 0 4), some (vr 7 0 5), some (vr 7 0 7), some (vr 7 0 8), some (vr 7 0 9), some (vi x10), some (vi x11), some (vi (nI e)), some (vi x13), none, some (vi (nI t)), some (vi (nI v))] [] O = ex 10 218 721 [some (vr 8 0 0), some (vr 6 0 0), none, some (vr 7 0 2), some (vr 7 0 3), some (vr 7 0 4), some (vr 7 0 5), some (vr 7 0 7), some (vr 7 0 8), some (vr 7 0 9), some (vi y10), some (vi x11), some (vi (nI e)), some (vi x13), none, some (vi (nI t))] [] O' ∧ A'.1 = A.1 ∧ LP_ L A' y10 x11 O' := by
  obtain ⟨hq, hn20, hx, sh⟩ := h
  have hw := hq.1
  have hc := hq.2.1
  subst hx
  have st := sL_law_512 9 O (nI A.2.1.1) x11 (nI e) x13 (nI t) (nI v)
  rw [if_pos (by rw [nI_ltI (by omega) (by omega)]; exact hv)] at st
  by_cases z : A.2.1.1 = 0
  · rw [a_undo0 hw hc z] at st
    simp only [Option.bind_some] at st
    rw [if_pos (by rw [z])] at st
    have s2 := sL_law_537 9 O (nI A.2.1.1) x11 (nI e) x13 (nI t) (oI none) (oI none)
    rw [if_pos rfl, if_pos (by rw [z]), pk_sub (Nat.zero_le _)] at s2
    exact ⟨A, O, _, st.trans s2, rfl, hq, hn20, rfl, sh⟩
  · obtain ⟨O2, e2, w2, c2, q7, q8⟩ := a_undo hw hc z
    rw [e2] at st
    simp only [Option.bind_some] at st
    rw [if_neg (by rw [nI_eq (by omega) (by decide)]; exact z), pk_sub (by omega)] at st
    have s2 := sL_law_537 9 O2 (nI A.2.1.1) x11 (nI e) x13 (nI t) (nI (A.2.1.1 - 1)) (nI (A.2.1.1 - 1))
    rw [if_pos rfl, if_neg (by rw [nI_eq (by omega) (by decide)]; exact z), pk_sub (by omega)] at s2
    exact ⟨(A.1, (A.2.1.1 - 1, A.2.1.2), A.2.2), O2, _, st.trans s2, rfl, hq.to w2 c2 rfl rfl q7 q8, by show A.2.1.1 - 1 ≤ 20; omega, rfl, fun j hj => by
      have hj : j < A.2.1.1 - 1 := hj
      rw [q7]; exact sh j (by omega)⟩
theorem k_keep {e t : Nat} {x13 : Int32} (h : LP_ L A x10 x11 O) : ∃ A' O' y11, ex 10 218 512 [some (vr 8 0 0), some (vr 6 0 0), none, some (vr 7 0 2), some (vr 7 0 3), some (vr 7 0 4), some (vr 7 0 5), some (vr 7 0 7), some (vr 7 0 8), some (vr 7 0 9), some (vi x10), some (vi x11), some (vi (nI e)), some (vi x13), none, some (vi (nI t)), some (vi (nI 13))] [] O = ex 10 218 721 [some (vr 8 0 0), some (vr 6 0 0), none, some (vr 7 0 2), some (vr 7 0 3), some (vr 7 0 4), some (vr 7 0 5), some (vr 7 0 7), some (vr 7 0 8), some (vr 7 0 9), some (vi x10), some (vi y11), some (vi (nI e)), some (vi x13), none, some (vi (nI t))] [] O' ∧ A'.1 = A.1 ∧ LP_ L A' x10 y11 O' := by
  obtain ⟨hq, hn20, hx, sh⟩ := h
  obtain ⟨hw, hc, hB, la, h8, h0, hx11, h9⟩ := hq
  have st := sL_law_512 9 O x10 x11 (nI e) x13 (nI t) (nI 13)
  obtain ⟨O2, e2, w2, c2, q7, q8⟩ := a_keep hw hc (i := 1) (by decide)
  rw [if_neg (by decide), if_pos rfl, e2] at st
  simp only [Option.bind_some] at st
  have s582 : ex 10 218 512 [some (vr 8 0 0), some (vr 6 0 0), none, some (vr 7 0 2), some (vr 7 0 3), some (vr 7 0 4), some (vr 7 0 5), some (vr 7 0 7), some (vr 7 0 8), some (vr 7 0 9), some (vi x10), some (vi x11), some (vi (nI e)), some (vi x13), none, some (vi (nI t)), some (vi (nI 13))] [] O = ex 10 218 594 [some (vr 8 0 0), some (vr 6 0 0), none, some (vr 7 0 2), some (vr 7 0 3), some (vr 7 0 4), some (vr 7 0 5), some (vr 7 0 7), some (vr 7 0 8), some (vr 7 0 9), some (vi x10), some (vi x10), some (vi (nI e)), some (vi x13), none, some (vi (nI t)), none, some (vi (nI 0))] [] O2 := by
    refine st.trans ?_
    cases z : A.2.2.1 1 with
    | none =>
      rw [z] at hx11
      rw [hx11, if_pos (show iM none < nI 0 by decide)]
      exact (sL_law_582 ..).trans (if_pos rfl)
    | some c =>
      rw [z] at hx11
      have := (h9 c z).1
      rw [hx11, if_neg (show ¬ iM (some c) < nI 0 from oI_neg (j := c.1) (by omega))]
      exact (sL_law_582 ..).trans (if_pos rfl)
  obtain ⟨O3, e3, f3, g3⟩ := lp_i (fun j (O : Mem_) => ex 10 218 594 [some (vr 8 0 0), some (vr 6 0 0), none, some (vr 7 0 2), some (vr 7 0 3), some (vr 7 0 4), some (vr 7 0 5), some (vr 7 0 7), some (vr 7 0 8), some (vr 7 0 9), some (vi x10), some (vi x10), some (vi (nI e)), some (vi x13), none, some (vi (nI t)), none, some (vi (nI j))] [] O) (fun j O' => FrP 9 O2 O' ∧ ∀ i, i < j → O' 7 0 9 i = O2 7 0 7 i) 60 (fun j O' hj ⟨f, g⟩ => by
    have s := sL_law_594 9 O' x10 x10 (nI e) x13 (nI t) (nI j)
    rw [if_pos (by rw [nI_ltI (by omega) (by omega)]; exact hj), if_pos (ib_n hj (by decide)), if_pos (ib_n hj (by decide)), nI_add, nI_clamp (by omega)] at s
    refine ⟨_, s, f.u, fun i hi => ?_⟩
    by_cases z : i = j
    · rw [z, up_eq, f.2 7 (by decide)]
    · rw [up_ne (by omega)]; exact g i (by omega)) O2 ⟨FrP.rf, fun i hi => absurd hi (Nat.not_lt_zero i)⟩
  have s594 := sL_law_594 9 O3 x10 x10 (nI e) x13 (nI t) (nI 60)
  rw [if_neg (by decide)] at s594
  refine ⟨(A.1, A.2.1, (fun j => if j = 1 then some A.2.1 else A.2.2.1 j), A.2.2.2), O3, x10, s582.trans (e3.trans s594), rfl, ⟨w2, c2.of7 f3.1, hB, ?_, ?_, ?_, ?_, ?_⟩, hn20, hx, ?_⟩
  · have : LA A.1 (O2 7 0) := by rw [q7]; exact la
    exact this.ofP (by decide) f3
  · rw [f3.1 8 (by decide), q8]; exact h8
  · show (if 0 = 1 then some A.2.1 else A.2.2.1 0) = none
    rw [if_neg (by decide)]; exact h0
  · show x10 = iM (if 1 = 1 then some A.2.1 else A.2.2.1 1)
    rw [if_pos rfl]; exact hx
  · intro c hcc
    have hcc : (if 1 = 1 then some A.2.1 else A.2.2.1 1) = some c := hcc
    rw [if_pos rfl] at hcc
    cases hcc
    refine ⟨hn20, fun j hj => ?_⟩
    have := sh j hj
    rw [g3 _ (by omega), g3 _ (by omega), g3 _ (by omega), q7]
    exact this
  · intro j hj
    rw [f3.2 7 (by decide), q7]
    exact sh j hj
theorem k_back {e t : Nat} {x13 : Int32} (h : LP_ L A x10 x11 O) : ∃ A' O' y10, ex 10 218 512 [some (vr 8 0 0), some (vr 6 0 0), none, some (vr 7 0 2), some (vr 7 0 3), some (vr 7 0 4), some (vr 7 0 5), some (vr 7 0 7), some (vr 7 0 8), some (vr 7 0 9), some (vi x10), some (vi x11), some (vi (nI e)), some (vi x13), none, some (vi (nI t)), some (vi (nI 14))] [] O = ex 10 218 721 [some (vr 8 0 0), some (vr 6 0 0), none, some (vr 7 0 2), some (vr 7 0 3), some (vr 7 0 4), some (vr 7 0 5), some (vr 7 0 7), some (vr 7 0 8), some (vr 7 0 9), some (vi y10), some (vi x11), some (vi (nI e)), some (vi x13), none, some (vi (nI t))] [] O' ∧ A'.1 = A.1 ∧ LP_ L A' y10 x11 O' := by
  obtain ⟨hq, hn20, hx, sh⟩ := h
  have hq0 := hq
  obtain ⟨hw, hc, hB, la, h8, h0, hx11, h9⟩ := hq0
  have st := sL_law_512 9 O x10 x11 (nI e) x13 (nI t) (nI 14)
  rw [if_neg (by decide), if_neg (by decide), if_pos rfl] at st
  cases z : A.2.2.1 1 with
  | none =>
    rw [z] at hx11
    have hneg : x11 < nI 0 := by rw [hx11]; decide
    rw [a_back0 hw hc (by decide) z] at st
    simp only [Option.bind_some] at st
    rw [if_pos hneg] at st
    have s1 := sL_law_644 9 O x10 x11 (nI e) x13 (nI t) (-2) (-2)
    rw [if_pos rfl] at s1
    have s2 := sL_law_652 9 O x10 x11 (nI e) x13 (nI t) (nI 0)
    rw [if_pos (by decide), if_pos hneg] at s2
    have s3 := sL_law_680 9 O x10 x11 (nI e) x13 (nI t)
    rw [if_pos hneg] at s3
    exact ⟨A, O, x10, st.trans (s1.trans (s2.trans s3)), rfl, hq, hn20, hx, sh⟩
  | some c =>
    rw [z] at hx11
    obtain ⟨hc20, hs9⟩ := h9 c z
    have hx11 : x11 = nI c.1 := hx11
    have hneg : ¬ x11 < nI 0 := by rw [hx11]; exact oI_neg (by omega)
    obtain ⟨O2, e2, w2, c2, q7, q8⟩ := a_back hw hc (by decide) z
    rw [e2] at st
    simp only [Option.bind_some] at st
    rw [if_neg hneg] at st
    have s1 := sL_law_644 9 O2 x10 x11 (nI e) x13 (nI t) x11 (nI c.1)
    rw [if_pos hx11.symm] at s1
    obtain ⟨O3, e3, f3, g3⟩ := lp_i (fun j (O : Mem_) => ex 10 218 652 [some (vr 8 0 0), some (vr 6 0 0), none, some (vr 7 0 2), some (vr 7 0 3), some (vr 7 0 4), some (vr 7 0 5), some (vr 7 0 7), some (vr 7 0 8), some (vr 7 0 9), some (vi x10), some (vi x11), some (vi (nI e)), some (vi x13), none, some (vi (nI t)), none, some (vi (nI j))] [] O) (fun j O' => FrP 7 O2 O' ∧ ∀ i, i < j → O' 7 0 7 i = O2 7 0 9 i) 60 (fun j O' hj ⟨f, g⟩ => by
      have s := sL_law_652 9 O' x10 x11 (nI e) x13 (nI t) (nI j)
      rw [if_pos (by rw [nI_ltI (by omega) (by omega)]; exact hj), if_neg hneg, if_pos (ib_n hj (by decide)), if_pos (ib_n hj (by decide)), nI_add, nI_clamp (by omega)] at s
      refine ⟨_, s, f.u, fun i hi => ?_⟩
      by_cases z : i = j
      · rw [z, up_eq, f.2 9 (by decide)]
      · rw [up_ne (by omega)]; exact g i (by omega)) O2 ⟨FrP.rf, fun i hi => absurd hi (Nat.not_lt_zero i)⟩
    have s652 := sL_law_652 9 O3 x10 x11 (nI e) x13 (nI t) (nI 60)
    rw [if_neg (by decide)] at s652
    have s680 := sL_law_680 9 O3 x10 x11 (nI e) x13 (nI t)
    rw [if_neg hneg] at s680
    have hq2 : LQ_ L (A.1, c, A.2.2) x11 O2 := hq.to w2 c2 rfl rfl q7 q8
    refine ⟨(A.1, c, A.2.2), O3, x11, st.trans (s1.trans (e3.trans (s652.trans s680))), rfl, hq2.fr (Or.inl rfl) f3, hc20, hx11, fun j hj => ?_⟩
    have hj : j < c.1 := hj
    rw [g3 _ (by omega), g3 _ (by omega), g3 _ (by omega), q7]
    exact hs9 j hj
theorem k_clear {e t v : Nat} {x13 : Int32} (h : LP_ L A x10 x11 O) (hv : v = 15) : ∃ A' O' y10, ex 10 218 512 [some (vr 8 0 0), some (vr 6 0 0), none, some (vr 7 0 2), some (vr 7 0 3), some (vr 7 0 4), some (vr 7 0 5), some (vr 7 0 7), some (vr 7 0 8), some (vr 7 0 9), some (vi x10), some (vi x11), some (vi (nI e)), some (vi x13), none, some (vi (nI t)), some (vi (nI v))] [] O = ex 10 218 721 [some (vr 8 0 0), some (vr 6 0 0), none, some (vr 7 0 2), some (vr 7 0 3), some (vr 7 0 4), some (vr 7 0 5), some (vr 7 0 7), some (vr 7 0 8), some (vr 7 0 9), some (vi y10), some (vi x11), some (vi (nI e)), some (vi x13), none, some (vi (nI t))] [] O' ∧ A'.1 = A.1 ∧ LP_ L A' y10 x11 O' := by
  obtain ⟨hq, hn20, hx, sh⟩ := h
  have hw := hq.1
  have hc := hq.2.1
  subst hv
  have st := sL_law_512 9 O x10 x11 (nI e) x13 (nI t) (nI 15)
  rw [if_neg (by decide), if_neg (by decide), if_neg (by decide)] at st
  by_cases z : (x13 >>> (nI 9 &&& (31 : Int32))) &&& nI 3 = nI 0
  · obtain ⟨O2, e2, w2, c2, q7, q8⟩ := a_clear hw hc
    rw [if_pos z, e2] at st
    simp only [Option.bind_some] at st
    rw [if_pos hx.symm] at st
    exact ⟨(A.1, (0, A.2.1.2.1, 2 ^ nK A.1 - 1, A.2.1.2.2.2), A.2.2), O2, _, st, rfl, hq.to w2 c2 rfl rfl q7 q8, Nat.zero_le _, rfl, fun j hj => absurd hj (Nat.not_lt_zero j)⟩
  · rw [if_neg z] at st
    exact ⟨A, O, x10, st, rfl, hq, hn20, hx, sh⟩
end
