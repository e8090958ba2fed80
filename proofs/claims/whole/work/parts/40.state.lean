/-! THE STATE: what class and model hold alike; a call; the law's loop. -/
section
/-- showings, the kinds left, their sound: how many, which; the same of theirs -/
abbrev Sc_ : Type := Nat × (Nat → Nat × Nat × Bool) × Nat × Nat × (Nat → Nat × Bool)
/-- what is told; the scene; images; the tape; the fault; sheets (lane, size, cells); torn -/
abbrev A_ : Type := Td_ × Sc_ × (Nat → Option Sc_) × (Nat × (Nat → Nat)) × Nat × (Nat → Option (Nat × Nat × (Nat → Int32))) × Nat
def WSc (T : Td_) (c : Sc_) : Prop := c.1 ≤ 24 ∧ (∀ j, j < c.1 → (c.2.1 j).1 < nS T ∧ (c.2.1 j).2.1 < nT T) ∧ c.2.2.1 < 2 ^ nK T ∧ c.2.2.2.1 ≤ 12 ∧ ∀ j, j < c.2.2.2.1 → (c.2.2.2.2 j).1 < nT T
def WA (A : A_) : Prop := WT A.1 ∧ WSc A.1 A.2.1 ∧ (∀ i c, A.2.2.1 i = some c → WSc A.1 c) ∧ (A.2.2.2.1.1 ≤ 400 ∧ ∀ j, A.2.2.2.1.2 j < 256) ∧ A.2.2.2.2.1 < 10 ∧ (∀ k x, A.2.2.2.2.2.1 k = some x → x.1 < 3 ∧ x.2.1 ≤ 40) ∧ A.2.2.2.2.2.2 < 10
/-- the class's scene -/
def CS (R : Nat → Nat → Int32) (c : Sc_) : Prop := R 0 0 = nI c.1 ∧ (∀ j, j < c.1 → R 2 j = nI (c.2.1 j).1 ∧ R 3 j = nI (c.2.1 j).2.1 ∧ R 4 j = bI (c.2.1 j).2.2) ∧ R 0 4 = nI c.2.2.1 ∧ R 0 5 = nI c.2.2.2.1 ∧ ∀ j, j < c.2.2.2.1 → R 7 j = nI (c.2.2.2.2 j).1 ∧ R 8 j = bI (c.2.2.2.2 j).2
/-- a scene's rows of truths hold truths -/
def CB (R : Nat → Nat → Int32) : Prop := (∀ j, j < 24 → R 4 j = nI 0 ∨ R 4 j = nI 1) ∧ ∀ j, j < 12 → R 8 j = nI 0 ∨ R 8 j = nI 1
def CIm (R : Nat → Nat → Int32) (o : Option Sc_) : Prop := match o with
  | none => R 0 8 = nI 0
  | some c => R 0 8 = nI 1 ∧ CS R c
def CTp (R : Nat → Nat → Int32) (tp : Nat × (Nat → Nat)) : Prop := R 0 1 = nI tp.1 ∧ ∀ j, j < tp.1 → R 1 j = nI (tp.2 j)
def CSh (R : Nat → Nat → Int32) (sh : Nat → Option (Nat × Nat × (Nat → Int32))) : Prop := ∀ k, k < 4 → match sh k with
  | none => R 1 k = oI none
  | some x => R 1 k = nI x.2.1 ∧ R 2 k = nI x.1 ∧ ∀ i, i < 40 → R (4 + k) i = x.2.2 i
/-- which of the two is told -/
def CW (R : Nat → Nat → Int32) (w : Nat) : Prop := (w = 0 ∧ sel (R 0 1) = 0 ∧ sel (R 0 2) = 1) ∨ (w = 1 ∧ sel (R 0 1) = 1 ∧ sel (R 0 2) = 0)
/-- the class holds the state -/
def CI (O : Mem_) (A : A_) : Prop := ∃ w, CW (O 6 0) w ∧ O 6 0 0 9 = nI A.2.2.2.2.2.2 ∧ CT (O 4 w) A.1 ∧ CS (O 1 0) A.2.1 ∧ (∀ i, i < 2 → CIm (O 1 (1 + i)) (A.2.2.1 i)) ∧ (∀ i, i < 3 → CB (O 1 i)) ∧ CM (O 0 0) A.1 (2 ^ nK A.1 - 1) A.2.1.1 (mds A.1 A.2.1.2.1 A.2.1.1) ∧ CTp (O 3 0) A.2.2.2.1 ∧ O 3 0 0 2 = nI A.2.2.2.2.1 ∧ CSh (O 2 0) A.2.2.2.2.2.1
/-- the model's scene -/
def MS (R : Nat → Nat → Int32) (c : Sc_) : Prop := R 0 28 = nI c.1 ∧ (∀ j, j < c.1 → R 30 (3 * j) = nI (c.2.1 j).1 ∧ R 30 (3 * j + 1) = nI (c.2.1 j).2.1 ∧ R 30 (3 * j + 2) = bI (c.2.1 j).2.2) ∧ R 0 33 = nI c.2.2.1 ∧ R 0 34 = nI c.2.2.2.1 ∧ ∀ j, j < c.2.2.2.1 → R 36 j = nI (c.2.2.2.2 j).1 ∧ R 37 j = bI (c.2.2.2.2 j).2
def MIm (R : Nat → Nat → Int32) (i : Nat) (o : Option Sc_) : Prop := match o with
  | none => R 38 i = nI 0
  | some c => R 38 i = nI 1 ∧ R 39 (3 * i) = nI c.1 ∧ R 39 (3 * i + 1) = nI c.2.2.1 ∧ R 39 (3 * i + 2) = nI c.2.2.2.1 ∧ (∀ j, j < c.1 → R 40 (72 * i + 3 * j) = nI (c.2.1 j).1 ∧ R 40 (72 * i + (3 * j + 1)) = nI (c.2.1 j).2.1 ∧ R 40 (72 * i + (3 * j + 2)) = bI (c.2.1 j).2.2) ∧ ∀ j, j < c.2.2.2.1 → R 41 (24 * i + 2 * j) = nI (c.2.2.2.2 j).1 ∧ R 41 (24 * i + 2 * j + 1) = bI (c.2.2.2.2 j).2
def MTp (R : Nat → Nat → Int32) (tp : Nat × (Nat → Nat)) : Prop := R 0 20 = nI tp.1 ∧ ∀ j, j < tp.1 → R 20 j = nI (tp.2 j)
def MSh (R : Nat → Nat → Int32) (sh : Nat → Option (Nat × Nat × (Nat → Int32))) : Prop := ∀ k, k < 4 → match sh k with
  | none => R 42 k = oI none
  | some x => R 42 k = nI x.1 ∧ R 43 k = nI x.2.1 ∧ ∀ i, i < 40 → R 44 (40 * k + i) = x.2.2 i
/-- the model holds the state -/
def MI (R : Nat → Nat → Int32) (A : A_) : Prop := MT R A.1 ∧ MS R A.2.1 ∧ (∀ i, i < 2 → MIm R i (A.2.2.1 i)) ∧ NM R 0 A.1 (mds A.1 A.2.1.2.1 A.2.1.1) ∧ MTp R A.2.2.2.1 ∧ R 0 25 = nI A.2.2.2.2.1 ∧ MSh R A.2.2.2.2.2.1 ∧ R 0 44 = nI A.2.2.2.2.2.2
/-- where only rows for trying are changed -/
theorem CI.of {O O' : Mem_} {A : A_} (h : CI O A) (e0 : O' 0 0 = O 0 0) (e1 : O' 1 = O 1) (e2 : O' 2 = O 2) (e3 : O' 3 = O 3) (e4 : O' 4 = O 4) (e6 : O' 6 = O 6) : CI O' A := by
  obtain ⟨w, h⟩ := h
  refine ⟨w, ?_⟩
  rw [e0, e1, e2, e3, e4, e6]
  exact h
theorem MS.of {R R' : Nat → Nat → Int32} {c : Sc_} (h : MS R c) (e : ∀ p q, p ≠ 28 → p ≠ 31 → p ≠ 32 → p ≠ 33 → R' p q = R p q) : MS R' c := by
  refine ⟨?_, fun j hj => ?_, ?_, ?_, fun j hj => ?_⟩
  · rw [e _ _ (by decide) (by decide) (by decide) (by decide)]; exact h.1
  · rw [e _ _ (by decide) (by decide) (by decide) (by decide), e _ _ (by decide) (by decide) (by decide) (by decide), e _ _ (by decide) (by decide) (by decide) (by decide)]; exact h.2.1 j hj
  · rw [e _ _ (by decide) (by decide) (by decide) (by decide)]; exact h.2.2.1
  · rw [e _ _ (by decide) (by decide) (by decide) (by decide)]; exact h.2.2.2.1
  · rw [e _ _ (by decide) (by decide) (by decide) (by decide), e _ _ (by decide) (by decide) (by decide) (by decide)]; exact h.2.2.2.2 j hj
theorem MIm.of {R R' : Nat → Nat → Int32} {i : Nat} {o : Option Sc_} (h : MIm R i o) (e : ∀ p q, 38 ≤ p → p ≤ 41 → R' p q = R p q) : MIm R' i o := by
  cases o with
  | none => unfold MIm at h ⊢; dsimp only at h ⊢; rw [e _ _ (by decide) (by decide)]; exact h
  | some c =>
    unfold MIm at h ⊢
    dsimp only at h ⊢
    refine ⟨?_, ?_, ?_, ?_, fun j hj => ?_, fun j hj => ?_⟩
    · rw [e _ _ (by decide) (by decide)]; exact h.1
    · rw [e _ _ (by decide) (by decide)]; exact h.2.1
    · rw [e _ _ (by decide) (by decide)]; exact h.2.2.1
    · rw [e _ _ (by decide) (by decide)]; exact h.2.2.2.1
    · rw [e _ _ (by decide) (by decide), e _ _ (by decide) (by decide), e _ _ (by decide) (by decide)]; exact h.2.2.2.2.1 j hj
    · rw [e _ _ (by decide) (by decide), e _ _ (by decide) (by decide)]; exact h.2.2.2.2.2 j hj
theorem MSh.of {R R' : Nat → Nat → Int32} {sh : Nat → Option (Nat × Nat × (Nat → Int32))} (h : MSh R sh) (e : ∀ p q, 42 ≤ p → p ≤ 44 → R' p q = R p q) : MSh R' sh := by
  intro k hk
  have := h k hk
  cases hs : sh k with
  | none => rw [hs] at this; dsimp only at this ⊢; rw [e _ _ (by decide) (by decide)]; exact this
  | some x =>
    rw [hs] at this
    dsimp only at this ⊢
    refine ⟨?_, ?_, fun i hi => ?_⟩
    · rw [e _ _ (by decide) (by decide)]; exact this.1
    · rw [e _ _ (by decide) (by decide)]; exact this.2.1
    · rw [e _ _ (by decide) (by decide)]; exact this.2.2 i hi
theorem MTp.of {R R' : Nat → Nat → Int32} {tp : Nat × (Nat → Nat)} (h : MTp R tp) (e1 : R' 0 20 = R 0 20) (e : ∀ q, R' 20 q = R 20 q) : MTp R' tp := ⟨e1.trans h.1, fun j hj => (e j).trans (h.2 j hj)⟩
theorem MT.of {R R' : Nat → Nat → Int32} {T : Td_} (g : MT R T) (e : ∀ p q, p ≠ 28 → p ≠ 31 → p ≠ 32 → p ≠ 33 → R' p q = R p q) : MT R' T := by
  refine ⟨⟨?_, ?_, ?_, ?_⟩, fun t ht => ?_, fun m hm => ⟨?_, ?_, ?_⟩, fun s hs => ?_, fun k hk => ⟨?_, ?_, ?_, ?_, ?_⟩⟩ <;> rw [e _ _ (by decide) (by decide) (by decide) (by decide)]
  · exact g.1.1
  · exact g.1.2.1
  · exact g.1.2.2.1
  · exact g.1.2.2.2
  · exact g.2.1 t ht
  · exact (g.2.2.1 m hm).1
  · exact (g.2.2.1 m hm).2.1
  · exact (g.2.2.1 m hm).2.2
  · exact g.2.2.2.1 s hs
  · exact (g.2.2.2.2 k hk).1
  · exact (g.2.2.2.2 k hk).2.1
  · exact (g.2.2.2.2 k hk).2.2.1
  · exact (g.2.2.2.2 k hk).2.2.2.1
  · exact (g.2.2.2.2 k hk).2.2.2.2
theorem MI.of {O O' : Mem_} {A : A_} (hw : WA A) (h : MI (O 7 0) A) (e : ∀ p q, ¬ (p = 28 ∧ 70 ≤ q) → p ≠ 31 → p ≠ 32 → p ≠ 33 → O' 7 0 p q = O 7 0 p q) : MI (O' 7 0) A := by
  obtain ⟨h1, h2, h3, h4, h5, h6, h7, h8⟩ := h
  have h6k := hw.1.2.2.2.1
  have e2 : ∀ p q, p ≠ 28 → p ≠ 31 → p ≠ 32 → p ≠ 33 → O' 7 0 p q = O 7 0 p q := fun p q z => e p q (fun y => z y.1)
  refine ⟨h1.of e2, h2.of e2, fun i hi => (h3 i hi).of fun p q a b => e2 p q (by omega) (by omega) (by omega) (by omega), ?_, h5.of (e2 _ _ (by decide) (by decide) (by decide) (by decide)) (fun q => e2 _ _ (by decide) (by decide) (by decide) (by decide)), (e2 _ _ (by decide) (by decide) (by decide) (by decide)).trans h6, h7.of fun p q a b => e2 p q (by omega) (by omega) (by omega) (by omega), (e2 _ _ (by decide) (by decide) (by decide) (by decide)).trans h8⟩
  obtain ⟨g1, S, N, g2⟩ := h4
  refine ⟨fun k hk => ⟨fun s hs => ?_, ?_, ?_⟩, S, N, fun s hs => ?_⟩
  · rw [e _ _ (by omega) (by decide) (by decide) (by decide), e _ _ (by omega) (by decide) (by decide) (by decide)]; exact (g1 k hk).1 s hs
  · rw [e _ _ (by omega) (by decide) (by decide) (by decide)]; exact (g1 k hk).2.1
  · rw [e _ _ (by omega) (by decide) (by decide) (by decide)]; exact (g1 k hk).2.2
  · rw [e _ _ (by omega) (by decide) (by decide) (by decide), e _ _ (by omega) (by decide) (by decide) (by decide)]; exact g2 s hs
/-- class and model answer a call alike, and hold the same state behind it -/
def Cal (cx cm : Nat) (args : Lv_) : Prop := ∀ (O : Mem_) (A : A_), WA A → CI O A → MI (O 7 0) A → ∃ (r : Int32) (A' : A_) (O1 : Mem_), WA A' ∧ ex 40 cx 0 (some (vr 6 0 0) :: args) [] O = some (r, O1) ∧ CI O1 A' ∧ O1 7 = O 7 ∧ O1 8 = O 8 ∧ ∃ O2, ex 40 cm 0 (some (vr 7 0 0) :: args) [] O1 = some (r, O2) ∧ MI (O2 7 0) A' ∧ ∀ c, c ≠ 7 → O2 c = O1 c
theorem Cal.q {cx cm : Nat} {args : Lv_} (h : ∀ (O : Mem_) (A : A_), WA A → CI O A → MI (O 7 0) A → ∃ r, ex 40 cx 0 (some (vr 6 0 0) :: args) [] O = some (r, O) ∧ ex 40 cm 0 (some (vr 7 0 0) :: args) [] O = some (r, O)) : Cal cx cm args := by
  intro O A hw hc hm
  obtain ⟨r, h1, h2⟩ := h O A hw hc hm
  exact ⟨r, A, O, hw, h1, hc, rfl, rfl, O, h2, hm, fun _ _ => rfl⟩
def All_ : Prop := (∀ v : Int64, Cal 67 126 [some (vl v), none]) ∧ (∀ x : Int32, Cal 68 127 [some (vi x)]) ∧ (Cal 69 140 []) ∧ (Cal 70 141 []) ∧ (∀ x : Int32, Cal 71 149 [some (vi x)]) ∧ (∀ x y : Int32, Cal 72 150 [some (vi x), some (vi y)]) ∧ (∀ x : Int32, Cal 73 151 [some (vi x)]) ∧ (∀ x y : Int32, Cal 74 152 [some (vi x), some (vi y)]) ∧ (∀ (x y : Int32) (b : Bool), Cal 75 165 [some (vi x), some (vi y), some (vi (bI b))]) ∧ (∀ x y : Int32, Cal 76 166 [some (vi x), some (vi y)]) ∧ (Cal 77 167 []) ∧ (Cal 78 168 []) ∧ (∀ x y : Int32, Cal 79 169 [some (vi x), some (vi y)]) ∧ (∀ x y : Int32, Cal 80 170 [some (vi x), some (vi y)]) ∧ (∀ x y : Int32, Cal 81 171 [some (vi x), some (vi y)]) ∧ (∀ x y : Int32, Cal 82 173 [some (vi x), some (vi y)]) ∧ (∀ x : Int32, Cal 83 174 [some (vi x)]) ∧ (∀ x y : Int32, Cal 84 175 [some (vi x), some (vi y)]) ∧ (∀ x : Int32, Cal 85 177 [some (vi x)]) ∧ (∀ x y z : Int32, Cal 86 183 [some (vi x), some (vi y), some (vi z)]) ∧ (∀ x y : Int32, Cal 87 184 [some (vi x), some (vi y)]) ∧ (∀ x y : Int32, Cal 88 187 [some (vi x), some (vi y)]) ∧ (∀ x y : Int32, Cal 89 192 [some (vi x), some (vi y)]) ∧ (∀ x : Int32, Cal 90 193 [some (vi x)]) ∧ (∀ x y z : Int32, Cal 91 195 [some (vi x), some (vi y), some (vi z)]) ∧ (∀ x y z : Int32, Cal 92 197 [some (vi x), some (vi y), some (vi z)]) ∧ (∀ x : Int32, Cal 93 198 [some (vi x)]) ∧ (∀ x : Int32, Cal 94 199 [some (vi x)]) ∧ (∀ x y : Int32, Cal 95 200 [some (vi x), some (vi y)]) ∧ (∀ x y : Int32, Cal 96 201 [some (vi x), some (vi y)]) ∧ (∀ (x : Int32) (b : Bool), Cal 97 202 [some (vi x), some (vi (bI b))]) ∧ (Cal 98 203 []) ∧ (∀ x : Int32, Cal 99 206 [some (vi x)]) ∧ (∀ x y : Int32, Cal 100 207 [some (vi x), some (vi y)]) ∧ (∀ x : Int32, Cal 101 208 [some (vi x)]) ∧ (∀ x : Int32, Cal 102 209 [some (vi x)]) ∧ (∀ x : Int32, Cal 103 210 [some (vi x)]) ∧ (∀ x y z : Int32, Cal 104 212 [some (vi x), some (vi y), some (vi z)]) ∧ (∀ x y z : Int32, Cal 105 213 [some (vi x), some (vi y), some (vi z)]) ∧ (∀ x y z u : Int32, Cal 106 214 [some (vi x), some (vi y), some (vi z), some (vi u)]) ∧ (Cal 107 215 []) ∧ (∀ x : Int32, Cal 108 216 [some (vi x)])
theorem law_ok (hall : All_) (L : Nat) (hL5 : L ≤ 2560) : ∀ (n i : Nat) (O : Mem_) (A : A_), L < i + n → i ≤ L + 5 → O 8 0 1 0 = nI L → WA A → CI O A → MI (O 7 0) A → ∃ O2, ex (40 + 1) 218 18 [some (vr 8 0 0), some (vr 6 0 0), some (vr 7 0 0), some (vi (nI i))] [] O = some (nI 1, O2) := by
  obtain ⟨a0, a1, a2, a3, a4, a5, a6, a7, a8, a9, a10, a11, a12, a13, a14, a15, a16, a17, a18, a19, a20, a21, a22, a23, a24, a25, a26, a27, a28, a29, a30, a31, a32, a33, a34, a35, a36, a37, a38, a39, a40, a41⟩ := hall
  intro n
  induction n with
  | zero =>
    intro i O A h1 h2 hL hw hc hm
    refine ⟨O, (sL_law_18 ..).trans ?_⟩
    rw [hL, if_pos (by rw [Int32.lt_iff_toInt_lt, pk_sub_toInt (by omega) (by decide), nI_toInt (by omega)]; omega)]
  | succ n ih =>
    intro i O A h1 h2 hL hw hc hm
    by_cases hi : L < i + 5
    · refine ⟨O, (sL_law_18 ..).trans ?_⟩
      rw [hL, if_pos (by rw [Int32.lt_iff_toInt_lt, pk_sub_toInt (by omega) (by decide), nI_toInt (by omega)]; omega)]
    · have nx : ∀ (cx cm : Nat) (args : Lv_), Cal cx cm args → ∃ r O1 O2, ex 40 cx 0 (some (vr 6 0 0) :: args) [] O = some (r, O1) ∧ O1 8 = O 8 ∧ ex 40 cm 0 (some (vr 7 0 0) :: args) [] O1 = some (r, O2) ∧ O2 8 = O 8 ∧ ∃ O3, ex (40 + 1) 218 18 [some (vr 8 0 0), some (vr 6 0 0), some (vr 7 0 0), some (vi (nI (i + 5)))] [] O2 = some (nI 1, O3) := by
        intro cx cm args hcal
        obtain ⟨r, A', O1, w, e1, ci, h7, h8, O2, e2, mi, h9⟩ := hcal O A hw hc hm
        have c8 : O2 8 = O 8 := (h9 8 (by decide)).trans h8
        refine ⟨r, O1, O2, e1, h8, e2, c8, ih (i + 5) O2 A' (by omega) (by omega) (by rw [c8]; exact hL) w ?_ mi⟩
        refine ci.of ?_ ?_ ?_ ?_ ?_ ?_ <;> rw [h9 _ (by decide)]
      have hx : ¬ (nI L - nI 5 < nI i) := by rw [Int32.lt_iff_toInt_lt, pk_sub_toInt (by omega) (by decide), nI_toInt (by omega)]; omega
      rw [sL_law_18, hL, if_neg hx, if_pos (by rw [nI_clamp (by omega)]; exact ib_n (by omega) (by omega))]
      by_cases s0 : O 8 0 0 (nI i).toNatClampNeg &&& nI 63 = nI 0
      · rw [if_pos s0]
        obtain ⟨r, O1, O2, e1, h8, e2, c8, O3, e3⟩ := nx _ _ _ (a0 (((Int32.toInt64 (O 8 0 0 (i + 1))) <<< (Int32.toInt64 (nI 32) &&& 63)) ||| ((Int32.toInt64 (O 8 0 0 (i + 2))) &&& (4294967295))))
        refine ⟨O3, ?_⟩
        simp (disch := omega) only [nI_ltI, nI_eq, nI_add, nI_clamp, ib_n, pk_mul, q_and, q_or, q_dn, q_shl, q_shlm, q_p1, if_true, if_false, ↓reduceIte, Option.bind_some, bI_0, bI_1, bI_01, b_or, Nat.not_lt_zero, Nat.zero_add, Bool.false_eq_true, Bool.true_eq_false, or_false, or_true, true_or, false_or, e1, h8, hL, e2]
        exact e3
      rw [if_neg s0]
      by_cases s1 : O 8 0 0 (nI i).toNatClampNeg &&& nI 63 = nI 1
      · rw [if_pos s1]
        obtain ⟨r, O1, O2, e1, h8, e2, c8, O3, e3⟩ := nx _ _ _ (a1 (O 8 0 0 (i + 1)))
        refine ⟨O3, ?_⟩
        simp (disch := omega) only [nI_ltI, nI_eq, nI_add, nI_clamp, ib_n, pk_mul, q_and, q_or, q_dn, q_shl, q_shlm, q_p1, if_true, if_false, ↓reduceIte, Option.bind_some, bI_0, bI_1, bI_01, b_or, Nat.not_lt_zero, Nat.zero_add, Bool.false_eq_true, Bool.true_eq_false, or_false, or_true, true_or, false_or, e1, h8, hL, e2]
        exact e3
      rw [if_neg s1]
      by_cases s2 : O 8 0 0 (nI i).toNatClampNeg &&& nI 63 = nI 2
      · rw [if_pos s2]
        obtain ⟨r, O1, O2, e1, h8, e2, c8, O3, e3⟩ := nx _ _ _ (a2)
        refine ⟨O3, ?_⟩
        simp (disch := omega) only [nI_ltI, nI_eq, nI_add, nI_clamp, ib_n, pk_mul, q_and, q_or, q_dn, q_shl, q_shlm, q_p1, if_true, if_false, ↓reduceIte, Option.bind_some, bI_0, bI_1, bI_01, b_or, Nat.not_lt_zero, Nat.zero_add, Bool.false_eq_true, Bool.true_eq_false, or_false, or_true, true_or, false_or, e1, h8, hL, e2]
        exact e3
      rw [if_neg s2]
      by_cases s3 : O 8 0 0 (nI i).toNatClampNeg &&& nI 63 = nI 3
      · rw [if_pos s3]
        obtain ⟨r, O1, O2, e1, h8, e2, c8, O3, e3⟩ := nx _ _ _ (a3)
        refine ⟨O3, ?_⟩
        simp (disch := omega) only [nI_ltI, nI_eq, nI_add, nI_clamp, ib_n, pk_mul, q_and, q_or, q_dn, q_shl, q_shlm, q_p1, if_true, if_false, ↓reduceIte, Option.bind_some, bI_0, bI_1, bI_01, b_or, Nat.not_lt_zero, Nat.zero_add, Bool.false_eq_true, Bool.true_eq_false, or_false, or_true, true_or, false_or, e1, h8, hL, e2]
        exact e3
      rw [if_neg s3]
      by_cases s4 : O 8 0 0 (nI i).toNatClampNeg &&& nI 63 = nI 4
      · rw [if_pos s4]
        obtain ⟨r, O1, O2, e1, h8, e2, c8, O3, e3⟩ := nx _ _ _ (a4 (O 8 0 0 (i + 1)))
        refine ⟨O3, ?_⟩
        simp (disch := omega) only [nI_ltI, nI_eq, nI_add, nI_clamp, ib_n, pk_mul, q_and, q_or, q_dn, q_shl, q_shlm, q_p1, if_true, if_false, ↓reduceIte, Option.bind_some, bI_0, bI_1, bI_01, b_or, Nat.not_lt_zero, Nat.zero_add, Bool.false_eq_true, Bool.true_eq_false, or_false, or_true, true_or, false_or, e1, h8, hL, e2]
        exact e3
      rw [if_neg s4]
      by_cases s5 : O 8 0 0 (nI i).toNatClampNeg &&& nI 63 = nI 5
      · rw [if_pos s5]
        obtain ⟨r, O1, O2, e1, h8, e2, c8, O3, e3⟩ := nx _ _ _ (a5 (O 8 0 0 (i + 1)) (O 8 0 0 (i + 2)))
        refine ⟨O3, ?_⟩
        simp (disch := omega) only [nI_ltI, nI_eq, nI_add, nI_clamp, ib_n, pk_mul, q_and, q_or, q_dn, q_shl, q_shlm, q_p1, if_true, if_false, ↓reduceIte, Option.bind_some, bI_0, bI_1, bI_01, b_or, Nat.not_lt_zero, Nat.zero_add, Bool.false_eq_true, Bool.true_eq_false, or_false, or_true, true_or, false_or, e1, h8, hL, e2]
        exact e3
      rw [if_neg s5]
      by_cases s6 : O 8 0 0 (nI i).toNatClampNeg &&& nI 63 = nI 6
      · rw [if_pos s6]
        obtain ⟨r, O1, O2, e1, h8, e2, c8, O3, e3⟩ := nx _ _ _ (a6 (O 8 0 0 (i + 1)))
        refine ⟨O3, ?_⟩
        simp (disch := omega) only [nI_ltI, nI_eq, nI_add, nI_clamp, ib_n, pk_mul, q_and, q_or, q_dn, q_shl, q_shlm, q_p1, if_true, if_false, ↓reduceIte, Option.bind_some, bI_0, bI_1, bI_01, b_or, Nat.not_lt_zero, Nat.zero_add, Bool.false_eq_true, Bool.true_eq_false, or_false, or_true, true_or, false_or, e1, h8, hL, e2]
        exact e3
      rw [if_neg s6]
      by_cases s7 : O 8 0 0 (nI i).toNatClampNeg &&& nI 63 = nI 7
      · rw [if_pos s7]
        obtain ⟨r, O1, O2, e1, h8, e2, c8, O3, e3⟩ := nx _ _ _ (a7 (O 8 0 0 (i + 1)) (O 8 0 0 (i + 2)))
        refine ⟨O3, ?_⟩
        simp (disch := omega) only [nI_ltI, nI_eq, nI_add, nI_clamp, ib_n, pk_mul, q_and, q_or, q_dn, q_shl, q_shlm, q_p1, if_true, if_false, ↓reduceIte, Option.bind_some, bI_0, bI_1, bI_01, b_or, Nat.not_lt_zero, Nat.zero_add, Bool.false_eq_true, Bool.true_eq_false, or_false, or_true, true_or, false_or, e1, h8, hL, e2]
        exact e3
      rw [if_neg s7]
      by_cases s8 : O 8 0 0 (nI i).toNatClampNeg &&& nI 63 = nI 8
      · rw [if_pos s8]
        by_cases hb : O 8 0 0 (i + 3) = nI 0
        · obtain ⟨r, O1, O2, e1, h8, e2, c8, O3, e3⟩ := nx _ _ _ (a8 (O 8 0 0 (i + 1)) (O 8 0 0 (i + 2)) false)
          refine ⟨O3, ?_⟩
          simp only [bI_f] at e1 e2
          simp (disch := omega) only [nI_ltI, nI_eq, nI_add, nI_clamp, ib_n, pk_mul, q_and, q_or, q_dn, q_shl, q_shlm, q_p1, if_true, if_false, ↓reduceIte, Option.bind_some, bI_0, bI_1, bI_01, b_or, Nat.not_lt_zero, Nat.zero_add, Bool.false_eq_true, Bool.true_eq_false, or_false, or_true, true_or, false_or, hb, e1, h8, hL, e2, sL_law_454, sL_law_481]
          exact e3
        · obtain ⟨r, O1, O2, e1, h8, e2, c8, O3, e3⟩ := nx _ _ _ (a8 (O 8 0 0 (i + 1)) (O 8 0 0 (i + 2)) true)
          refine ⟨O3, ?_⟩
          simp only [bI_t] at e1 e2
          simp (disch := omega) only [nI_ltI, nI_eq, nI_add, nI_clamp, ib_n, pk_mul, q_and, q_or, q_dn, q_shl, q_shlm, q_p1, if_true, if_false, ↓reduceIte, Option.bind_some, bI_0, bI_1, bI_01, b_or, Nat.not_lt_zero, Nat.zero_add, Bool.false_eq_true, Bool.true_eq_false, or_false, or_true, true_or, false_or, hb, e1, h8, hL, e2, sL_law_454, sL_law_481]
          exact e3
      rw [if_neg s8]
      by_cases s9 : O 8 0 0 (nI i).toNatClampNeg &&& nI 63 = nI 9
      · rw [if_pos s9]
        obtain ⟨r, O1, O2, e1, h8, e2, c8, O3, e3⟩ := nx _ _ _ (a9 (O 8 0 0 (i + 1)) (O 8 0 0 (i + 2)))
        refine ⟨O3, ?_⟩
        simp (disch := omega) only [nI_ltI, nI_eq, nI_add, nI_clamp, ib_n, pk_mul, q_and, q_or, q_dn, q_shl, q_shlm, q_p1, if_true, if_false, ↓reduceIte, Option.bind_some, bI_0, bI_1, bI_01, b_or, Nat.not_lt_zero, Nat.zero_add, Bool.false_eq_true, Bool.true_eq_false, or_false, or_true, true_or, false_or, e1, h8, hL, e2]
        exact e3
      rw [if_neg s9]
      by_cases s10 : O 8 0 0 (nI i).toNatClampNeg &&& nI 63 = nI 10
      · rw [if_pos s10]
        obtain ⟨r, O1, O2, e1, h8, e2, c8, O3, e3⟩ := nx _ _ _ (a10)
        refine ⟨O3, ?_⟩
        simp (disch := omega) only [nI_ltI, nI_eq, nI_add, nI_clamp, ib_n, pk_mul, q_and, q_or, q_dn, q_shl, q_shlm, q_p1, if_true, if_false, ↓reduceIte, Option.bind_some, bI_0, bI_1, bI_01, b_or, Nat.not_lt_zero, Nat.zero_add, Bool.false_eq_true, Bool.true_eq_false, or_false, or_true, true_or, false_or, e1, h8, hL, e2]
        exact e3
      rw [if_neg s10]
      by_cases s11 : O 8 0 0 (nI i).toNatClampNeg &&& nI 63 = nI 11
      · rw [if_pos s11]
        obtain ⟨r, O1, O2, e1, h8, e2, c8, O3, e3⟩ := nx _ _ _ (a11)
        refine ⟨O3, ?_⟩
        simp (disch := omega) only [nI_ltI, nI_eq, nI_add, nI_clamp, ib_n, pk_mul, q_and, q_or, q_dn, q_shl, q_shlm, q_p1, if_true, if_false, ↓reduceIte, Option.bind_some, bI_0, bI_1, bI_01, b_or, Nat.not_lt_zero, Nat.zero_add, Bool.false_eq_true, Bool.true_eq_false, or_false, or_true, true_or, false_or, e1, h8, hL, e2]
        exact e3
      rw [if_neg s11]
      by_cases s12 : O 8 0 0 (nI i).toNatClampNeg &&& nI 63 = nI 12
      · rw [if_pos s12]
        obtain ⟨r, O1, O2, e1, h8, e2, c8, O3, e3⟩ := nx _ _ _ (a12 (O 8 0 0 (i + 1)) (O 8 0 0 (i + 2)))
        refine ⟨O3, ?_⟩
        simp (disch := omega) only [nI_ltI, nI_eq, nI_add, nI_clamp, ib_n, pk_mul, q_and, q_or, q_dn, q_shl, q_shlm, q_p1, if_true, if_false, ↓reduceIte, Option.bind_some, bI_0, bI_1, bI_01, b_or, Nat.not_lt_zero, Nat.zero_add, Bool.false_eq_true, Bool.true_eq_false, or_false, or_true, true_or, false_or, e1, h8, hL, e2]
        exact e3
      rw [if_neg s12]
      by_cases s13 : O 8 0 0 (nI i).toNatClampNeg &&& nI 63 = nI 13
      · rw [if_pos s13]
        obtain ⟨r, O1, O2, e1, h8, e2, c8, O3, e3⟩ := nx _ _ _ (a13 (O 8 0 0 (i + 1)) (O 8 0 0 (i + 2)))
        refine ⟨O3, ?_⟩
        simp (disch := omega) only [nI_ltI, nI_eq, nI_add, nI_clamp, ib_n, pk_mul, q_and, q_or, q_dn, q_shl, q_shlm, q_p1, if_true, if_false, ↓reduceIte, Option.bind_some, bI_0, bI_1, bI_01, b_or, Nat.not_lt_zero, Nat.zero_add, Bool.false_eq_true, Bool.true_eq_false, or_false, or_true, true_or, false_or, e1, h8, hL, e2]
        exact e3
      rw [if_neg s13]
      by_cases s14 : O 8 0 0 (nI i).toNatClampNeg &&& nI 63 = nI 14
      · rw [if_pos s14]
        obtain ⟨r, O1, O2, e1, h8, e2, c8, O3, e3⟩ := nx _ _ _ (a14 (O 8 0 0 (i + 1)) (O 8 0 0 (i + 2)))
        refine ⟨O3, ?_⟩
        simp (disch := omega) only [nI_ltI, nI_eq, nI_add, nI_clamp, ib_n, pk_mul, q_and, q_or, q_dn, q_shl, q_shlm, q_p1, if_true, if_false, ↓reduceIte, Option.bind_some, bI_0, bI_1, bI_01, b_or, Nat.not_lt_zero, Nat.zero_add, Bool.false_eq_true, Bool.true_eq_false, or_false, or_true, true_or, false_or, e1, h8, hL, e2]
        exact e3
      rw [if_neg s14]
      by_cases s15 : O 8 0 0 (nI i).toNatClampNeg &&& nI 63 = nI 15
      · rw [if_pos s15]
        obtain ⟨r, O1, O2, e1, h8, e2, c8, O3, e3⟩ := nx _ _ _ (a15 (O 8 0 0 (i + 1)) (O 8 0 0 (i + 2)))
        refine ⟨O3, ?_⟩
        simp (disch := omega) only [nI_ltI, nI_eq, nI_add, nI_clamp, ib_n, pk_mul, q_and, q_or, q_dn, q_shl, q_shlm, q_p1, if_true, if_false, ↓reduceIte, Option.bind_some, bI_0, bI_1, bI_01, b_or, Nat.not_lt_zero, Nat.zero_add, Bool.false_eq_true, Bool.true_eq_false, or_false, or_true, true_or, false_or, e1, h8, hL, e2]
        exact e3
      rw [if_neg s15]
      by_cases s16 : O 8 0 0 (nI i).toNatClampNeg &&& nI 63 = nI 16
      · rw [if_pos s16]
        obtain ⟨r, O1, O2, e1, h8, e2, c8, O3, e3⟩ := nx _ _ _ (a16 (O 8 0 0 (i + 1)))
        refine ⟨O3, ?_⟩
        simp (disch := omega) only [nI_ltI, nI_eq, nI_add, nI_clamp, ib_n, pk_mul, q_and, q_or, q_dn, q_shl, q_shlm, q_p1, if_true, if_false, ↓reduceIte, Option.bind_some, bI_0, bI_1, bI_01, b_or, Nat.not_lt_zero, Nat.zero_add, Bool.false_eq_true, Bool.true_eq_false, or_false, or_true, true_or, false_or, e1, h8, hL, e2]
        exact e3
      rw [if_neg s16]
      by_cases s17 : O 8 0 0 (nI i).toNatClampNeg &&& nI 63 = nI 17
      · rw [if_pos s17]
        obtain ⟨r, O1, O2, e1, h8, e2, c8, O3, e3⟩ := nx _ _ _ (a17 (O 8 0 0 (i + 1)) (O 8 0 0 (i + 2)))
        refine ⟨O3, ?_⟩
        simp (disch := omega) only [nI_ltI, nI_eq, nI_add, nI_clamp, ib_n, pk_mul, q_and, q_or, q_dn, q_shl, q_shlm, q_p1, if_true, if_false, ↓reduceIte, Option.bind_some, bI_0, bI_1, bI_01, b_or, Nat.not_lt_zero, Nat.zero_add, Bool.false_eq_true, Bool.true_eq_false, or_false, or_true, true_or, false_or, e1, h8, hL, e2]
        exact e3
      rw [if_neg s17]
      by_cases s18 : O 8 0 0 (nI i).toNatClampNeg &&& nI 63 = nI 18
      · rw [if_pos s18]
        obtain ⟨r, O1, O2, e1, h8, e2, c8, O3, e3⟩ := nx _ _ _ (a18 (O 8 0 0 (i + 1)))
        refine ⟨O3, ?_⟩
        simp (disch := omega) only [nI_ltI, nI_eq, nI_add, nI_clamp, ib_n, pk_mul, q_and, q_or, q_dn, q_shl, q_shlm, q_p1, if_true, if_false, ↓reduceIte, Option.bind_some, bI_0, bI_1, bI_01, b_or, Nat.not_lt_zero, Nat.zero_add, Bool.false_eq_true, Bool.true_eq_false, or_false, or_true, true_or, false_or, e1, h8, hL, e2]
        exact e3
      rw [if_neg s18]
      by_cases s19 : O 8 0 0 (nI i).toNatClampNeg &&& nI 63 = nI 19
      · rw [if_pos s19]
        obtain ⟨r, O1, O2, e1, h8, e2, c8, O3, e3⟩ := nx _ _ _ (a19 (O 8 0 0 (i + 1)) (O 8 0 0 (i + 2)) (O 8 0 0 (i + 3)))
        refine ⟨O3, ?_⟩
        simp (disch := omega) only [nI_ltI, nI_eq, nI_add, nI_clamp, ib_n, pk_mul, q_and, q_or, q_dn, q_shl, q_shlm, q_p1, if_true, if_false, ↓reduceIte, Option.bind_some, bI_0, bI_1, bI_01, b_or, Nat.not_lt_zero, Nat.zero_add, Bool.false_eq_true, Bool.true_eq_false, or_false, or_true, true_or, false_or, e1, h8, hL, e2]
        exact e3
      rw [if_neg s19]
      by_cases s20 : O 8 0 0 (nI i).toNatClampNeg &&& nI 63 = nI 20
      · rw [if_pos s20]
        obtain ⟨r, O1, O2, e1, h8, e2, c8, O3, e3⟩ := nx _ _ _ (a20 (O 8 0 0 (i + 1)) (O 8 0 0 (i + 2)))
        refine ⟨O3, ?_⟩
        simp (disch := omega) only [nI_ltI, nI_eq, nI_add, nI_clamp, ib_n, pk_mul, q_and, q_or, q_dn, q_shl, q_shlm, q_p1, if_true, if_false, ↓reduceIte, Option.bind_some, bI_0, bI_1, bI_01, b_or, Nat.not_lt_zero, Nat.zero_add, Bool.false_eq_true, Bool.true_eq_false, or_false, or_true, true_or, false_or, e1, h8, hL, e2]
        exact e3
      rw [if_neg s20]
      by_cases s21 : O 8 0 0 (nI i).toNatClampNeg &&& nI 63 = nI 21
      · rw [if_pos s21]
        obtain ⟨r, O1, O2, e1, h8, e2, c8, O3, e3⟩ := nx _ _ _ (a21 (O 8 0 0 (i + 1)) (O 8 0 0 (i + 2)))
        refine ⟨O3, ?_⟩
        simp (disch := omega) only [nI_ltI, nI_eq, nI_add, nI_clamp, ib_n, pk_mul, q_and, q_or, q_dn, q_shl, q_shlm, q_p1, if_true, if_false, ↓reduceIte, Option.bind_some, bI_0, bI_1, bI_01, b_or, Nat.not_lt_zero, Nat.zero_add, Bool.false_eq_true, Bool.true_eq_false, or_false, or_true, true_or, false_or, e1, h8, hL, e2]
        exact e3
      rw [if_neg s21]
      by_cases s22 : O 8 0 0 (nI i).toNatClampNeg &&& nI 63 = nI 22
      · rw [if_pos s22]
        obtain ⟨r, O1, O2, e1, h8, e2, c8, O3, e3⟩ := nx _ _ _ (a22 (O 8 0 0 (i + 1)) (O 8 0 0 (i + 2)))
        refine ⟨O3, ?_⟩
        simp (disch := omega) only [nI_ltI, nI_eq, nI_add, nI_clamp, ib_n, pk_mul, q_and, q_or, q_dn, q_shl, q_shlm, q_p1, if_true, if_false, ↓reduceIte, Option.bind_some, bI_0, bI_1, bI_01, b_or, Nat.not_lt_zero, Nat.zero_add, Bool.false_eq_true, Bool.true_eq_false, or_false, or_true, true_or, false_or, e1, h8, hL, e2]
        exact e3
      rw [if_neg s22]
      by_cases s23 : O 8 0 0 (nI i).toNatClampNeg &&& nI 63 = nI 23
      · rw [if_pos s23]
        obtain ⟨r, O1, O2, e1, h8, e2, c8, O3, e3⟩ := nx _ _ _ (a23 (O 8 0 0 (i + 1)))
        refine ⟨O3, ?_⟩
        simp (disch := omega) only [nI_ltI, nI_eq, nI_add, nI_clamp, ib_n, pk_mul, q_and, q_or, q_dn, q_shl, q_shlm, q_p1, if_true, if_false, ↓reduceIte, Option.bind_some, bI_0, bI_1, bI_01, b_or, Nat.not_lt_zero, Nat.zero_add, Bool.false_eq_true, Bool.true_eq_false, or_false, or_true, true_or, false_or, e1, h8, hL, e2]
        exact e3
      rw [if_neg s23]
      by_cases s24 : O 8 0 0 (nI i).toNatClampNeg &&& nI 63 = nI 24
      · rw [if_pos s24]
        obtain ⟨r, O1, O2, e1, h8, e2, c8, O3, e3⟩ := nx _ _ _ (a24 (O 8 0 0 (i + 1)) (O 8 0 0 (i + 2)) (O 8 0 0 (i + 3)))
        refine ⟨O3, ?_⟩
        simp (disch := omega) only [nI_ltI, nI_eq, nI_add, nI_clamp, ib_n, pk_mul, q_and, q_or, q_dn, q_shl, q_shlm, q_p1, if_true, if_false, ↓reduceIte, Option.bind_some, bI_0, bI_1, bI_01, b_or, Nat.not_lt_zero, Nat.zero_add, Bool.false_eq_true, Bool.true_eq_false, or_false, or_true, true_or, false_or, e1, h8, hL, e2]
        exact e3
      rw [if_neg s24]
      by_cases s25 : O 8 0 0 (nI i).toNatClampNeg &&& nI 63 = nI 25
      · rw [if_pos s25]
        obtain ⟨r, O1, O2, e1, h8, e2, c8, O3, e3⟩ := nx _ _ _ (a25 (O 8 0 0 (i + 1)) (O 8 0 0 (i + 2)) (O 8 0 0 (i + 3)))
        refine ⟨O3, ?_⟩
        simp (disch := omega) only [nI_ltI, nI_eq, nI_add, nI_clamp, ib_n, pk_mul, q_and, q_or, q_dn, q_shl, q_shlm, q_p1, if_true, if_false, ↓reduceIte, Option.bind_some, bI_0, bI_1, bI_01, b_or, Nat.not_lt_zero, Nat.zero_add, Bool.false_eq_true, Bool.true_eq_false, or_false, or_true, true_or, false_or, e1, h8, hL, e2]
        exact e3
      rw [if_neg s25]
      by_cases s26 : O 8 0 0 (nI i).toNatClampNeg &&& nI 63 = nI 26
      · rw [if_pos s26]
        obtain ⟨r, O1, O2, e1, h8, e2, c8, O3, e3⟩ := nx _ _ _ (a26 (O 8 0 0 (i + 1)))
        refine ⟨O3, ?_⟩
        simp (disch := omega) only [nI_ltI, nI_eq, nI_add, nI_clamp, ib_n, pk_mul, q_and, q_or, q_dn, q_shl, q_shlm, q_p1, if_true, if_false, ↓reduceIte, Option.bind_some, bI_0, bI_1, bI_01, b_or, Nat.not_lt_zero, Nat.zero_add, Bool.false_eq_true, Bool.true_eq_false, or_false, or_true, true_or, false_or, e1, h8, hL, e2]
        exact e3
      rw [if_neg s26]
      by_cases s27 : O 8 0 0 (nI i).toNatClampNeg &&& nI 63 = nI 27
      · rw [if_pos s27]
        obtain ⟨r, O1, O2, e1, h8, e2, c8, O3, e3⟩ := nx _ _ _ (a27 (O 8 0 0 (i + 1)))
        refine ⟨O3, ?_⟩
        simp (disch := omega) only [nI_ltI, nI_eq, nI_add, nI_clamp, ib_n, pk_mul, q_and, q_or, q_dn, q_shl, q_shlm, q_p1, if_true, if_false, ↓reduceIte, Option.bind_some, bI_0, bI_1, bI_01, b_or, Nat.not_lt_zero, Nat.zero_add, Bool.false_eq_true, Bool.true_eq_false, or_false, or_true, true_or, false_or, e1, h8, hL, e2]
        exact e3
      rw [if_neg s27]
      by_cases s28 : O 8 0 0 (nI i).toNatClampNeg &&& nI 63 = nI 28
      · rw [if_pos s28]
        obtain ⟨r, O1, O2, e1, h8, e2, c8, O3, e3⟩ := nx _ _ _ (a28 (O 8 0 0 (i + 1)) (O 8 0 0 (i + 2)))
        refine ⟨O3, ?_⟩
        simp (disch := omega) only [nI_ltI, nI_eq, nI_add, nI_clamp, ib_n, pk_mul, q_and, q_or, q_dn, q_shl, q_shlm, q_p1, if_true, if_false, ↓reduceIte, Option.bind_some, bI_0, bI_1, bI_01, b_or, Nat.not_lt_zero, Nat.zero_add, Bool.false_eq_true, Bool.true_eq_false, or_false, or_true, true_or, false_or, e1, h8, hL, e2]
        exact e3
      rw [if_neg s28]
      by_cases s29 : O 8 0 0 (nI i).toNatClampNeg &&& nI 63 = nI 29
      · rw [if_pos s29]
        obtain ⟨r, O1, O2, e1, h8, e2, c8, O3, e3⟩ := nx _ _ _ (a29 (O 8 0 0 (i + 1)) (O 8 0 0 (i + 2)))
        refine ⟨O3, ?_⟩
        simp (disch := omega) only [nI_ltI, nI_eq, nI_add, nI_clamp, ib_n, pk_mul, q_and, q_or, q_dn, q_shl, q_shlm, q_p1, if_true, if_false, ↓reduceIte, Option.bind_some, bI_0, bI_1, bI_01, b_or, Nat.not_lt_zero, Nat.zero_add, Bool.false_eq_true, Bool.true_eq_false, or_false, or_true, true_or, false_or, e1, h8, hL, e2]
        exact e3
      rw [if_neg s29]
      by_cases s30 : O 8 0 0 (nI i).toNatClampNeg &&& nI 63 = nI 30
      · rw [if_pos s30]
        by_cases hb : O 8 0 0 (i + 2) = nI 0
        · obtain ⟨r, O1, O2, e1, h8, e2, c8, O3, e3⟩ := nx _ _ _ (a30 (O 8 0 0 (i + 1)) false)
          refine ⟨O3, ?_⟩
          simp only [bI_f] at e1 e2
          simp (disch := omega) only [nI_ltI, nI_eq, nI_add, nI_clamp, ib_n, pk_mul, q_and, q_or, q_dn, q_shl, q_shlm, q_p1, if_true, if_false, ↓reduceIte, Option.bind_some, bI_0, bI_1, bI_01, b_or, Nat.not_lt_zero, Nat.zero_add, Bool.false_eq_true, Bool.true_eq_false, or_false, or_true, true_or, false_or, hb, e1, h8, hL, e2, sL_law_1141, sL_law_1163]
          exact e3
        · obtain ⟨r, O1, O2, e1, h8, e2, c8, O3, e3⟩ := nx _ _ _ (a30 (O 8 0 0 (i + 1)) true)
          refine ⟨O3, ?_⟩
          simp only [bI_t] at e1 e2
          simp (disch := omega) only [nI_ltI, nI_eq, nI_add, nI_clamp, ib_n, pk_mul, q_and, q_or, q_dn, q_shl, q_shlm, q_p1, if_true, if_false, ↓reduceIte, Option.bind_some, bI_0, bI_1, bI_01, b_or, Nat.not_lt_zero, Nat.zero_add, Bool.false_eq_true, Bool.true_eq_false, or_false, or_true, true_or, false_or, hb, e1, h8, hL, e2, sL_law_1141, sL_law_1163]
          exact e3
      rw [if_neg s30]
      by_cases s31 : O 8 0 0 (nI i).toNatClampNeg &&& nI 63 = nI 31
      · rw [if_pos s31]
        obtain ⟨r, O1, O2, e1, h8, e2, c8, O3, e3⟩ := nx _ _ _ (a31)
        refine ⟨O3, ?_⟩
        simp (disch := omega) only [nI_ltI, nI_eq, nI_add, nI_clamp, ib_n, pk_mul, q_and, q_or, q_dn, q_shl, q_shlm, q_p1, if_true, if_false, ↓reduceIte, Option.bind_some, bI_0, bI_1, bI_01, b_or, Nat.not_lt_zero, Nat.zero_add, Bool.false_eq_true, Bool.true_eq_false, or_false, or_true, true_or, false_or, e1, h8, hL, e2]
        exact e3
      rw [if_neg s31]
      by_cases s32 : O 8 0 0 (nI i).toNatClampNeg &&& nI 63 = nI 32
      · rw [if_pos s32]
        obtain ⟨r, O1, O2, e1, h8, e2, c8, O3, e3⟩ := nx _ _ _ (a32 (O 8 0 0 (i + 1)))
        refine ⟨O3, ?_⟩
        simp (disch := omega) only [nI_ltI, nI_eq, nI_add, nI_clamp, ib_n, pk_mul, q_and, q_or, q_dn, q_shl, q_shlm, q_p1, if_true, if_false, ↓reduceIte, Option.bind_some, bI_0, bI_1, bI_01, b_or, Nat.not_lt_zero, Nat.zero_add, Bool.false_eq_true, Bool.true_eq_false, or_false, or_true, true_or, false_or, e1, h8, hL, e2]
        exact e3
      rw [if_neg s32]
      by_cases s33 : O 8 0 0 (nI i).toNatClampNeg &&& nI 63 = nI 33
      · rw [if_pos s33]
        obtain ⟨r, O1, O2, e1, h8, e2, c8, O3, e3⟩ := nx _ _ _ (a33 (O 8 0 0 (i + 1)) (O 8 0 0 (i + 2)))
        refine ⟨O3, ?_⟩
        simp (disch := omega) only [nI_ltI, nI_eq, nI_add, nI_clamp, ib_n, pk_mul, q_and, q_or, q_dn, q_shl, q_shlm, q_p1, if_true, if_false, ↓reduceIte, Option.bind_some, bI_0, bI_1, bI_01, b_or, Nat.not_lt_zero, Nat.zero_add, Bool.false_eq_true, Bool.true_eq_false, or_false, or_true, true_or, false_or, e1, h8, hL, e2]
        exact e3
      rw [if_neg s33]
      by_cases s34 : O 8 0 0 (nI i).toNatClampNeg &&& nI 63 = nI 34
      · rw [if_pos s34]
        obtain ⟨r, O1, O2, e1, h8, e2, c8, O3, e3⟩ := nx _ _ _ (a34 (O 8 0 0 (i + 1)))
        refine ⟨O3, ?_⟩
        simp (disch := omega) only [nI_ltI, nI_eq, nI_add, nI_clamp, ib_n, pk_mul, q_and, q_or, q_dn, q_shl, q_shlm, q_p1, if_true, if_false, ↓reduceIte, Option.bind_some, bI_0, bI_1, bI_01, b_or, Nat.not_lt_zero, Nat.zero_add, Bool.false_eq_true, Bool.true_eq_false, or_false, or_true, true_or, false_or, e1, h8, hL, e2]
        exact e3
      rw [if_neg s34]
      by_cases s35 : O 8 0 0 (nI i).toNatClampNeg &&& nI 63 = nI 35
      · rw [if_pos s35]
        obtain ⟨r, O1, O2, e1, h8, e2, c8, O3, e3⟩ := nx _ _ _ (a35 (O 8 0 0 (i + 1)))
        refine ⟨O3, ?_⟩
        simp (disch := omega) only [nI_ltI, nI_eq, nI_add, nI_clamp, ib_n, pk_mul, q_and, q_or, q_dn, q_shl, q_shlm, q_p1, if_true, if_false, ↓reduceIte, Option.bind_some, bI_0, bI_1, bI_01, b_or, Nat.not_lt_zero, Nat.zero_add, Bool.false_eq_true, Bool.true_eq_false, or_false, or_true, true_or, false_or, e1, h8, hL, e2]
        exact e3
      rw [if_neg s35]
      by_cases s36 : O 8 0 0 (nI i).toNatClampNeg &&& nI 63 = nI 36
      · rw [if_pos s36]
        obtain ⟨r, O1, O2, e1, h8, e2, c8, O3, e3⟩ := nx _ _ _ (a36 (O 8 0 0 (i + 1)))
        refine ⟨O3, ?_⟩
        simp (disch := omega) only [nI_ltI, nI_eq, nI_add, nI_clamp, ib_n, pk_mul, q_and, q_or, q_dn, q_shl, q_shlm, q_p1, if_true, if_false, ↓reduceIte, Option.bind_some, bI_0, bI_1, bI_01, b_or, Nat.not_lt_zero, Nat.zero_add, Bool.false_eq_true, Bool.true_eq_false, or_false, or_true, true_or, false_or, e1, h8, hL, e2]
        exact e3
      rw [if_neg s36]
      by_cases s37 : O 8 0 0 (nI i).toNatClampNeg &&& nI 63 = nI 37
      · rw [if_pos s37]
        obtain ⟨r, O1, O2, e1, h8, e2, c8, O3, e3⟩ := nx _ _ _ (a37 (O 8 0 0 (i + 1)) (O 8 0 0 (i + 2)) (O 8 0 0 (i + 3)))
        refine ⟨O3, ?_⟩
        simp (disch := omega) only [nI_ltI, nI_eq, nI_add, nI_clamp, ib_n, pk_mul, q_and, q_or, q_dn, q_shl, q_shlm, q_p1, if_true, if_false, ↓reduceIte, Option.bind_some, bI_0, bI_1, bI_01, b_or, Nat.not_lt_zero, Nat.zero_add, Bool.false_eq_true, Bool.true_eq_false, or_false, or_true, true_or, false_or, e1, h8, hL, e2]
        exact e3
      rw [if_neg s37]
      by_cases s38 : O 8 0 0 (nI i).toNatClampNeg &&& nI 63 = nI 38
      · rw [if_pos s38]
        obtain ⟨r, O1, O2, e1, h8, e2, c8, O3, e3⟩ := nx _ _ _ (a38 (O 8 0 0 (i + 1)) (O 8 0 0 (i + 2)) (O 8 0 0 (i + 3)))
        refine ⟨O3, ?_⟩
        simp (disch := omega) only [nI_ltI, nI_eq, nI_add, nI_clamp, ib_n, pk_mul, q_and, q_or, q_dn, q_shl, q_shlm, q_p1, if_true, if_false, ↓reduceIte, Option.bind_some, bI_0, bI_1, bI_01, b_or, Nat.not_lt_zero, Nat.zero_add, Bool.false_eq_true, Bool.true_eq_false, or_false, or_true, true_or, false_or, e1, h8, hL, e2]
        exact e3
      rw [if_neg s38]
      by_cases s39 : O 8 0 0 (nI i).toNatClampNeg &&& nI 63 = nI 39
      · rw [if_pos s39]
        obtain ⟨r, O1, O2, e1, h8, e2, c8, O3, e3⟩ := nx _ _ _ (a39 (O 8 0 0 (i + 1)) (O 8 0 0 (i + 2)) (O 8 0 0 (i + 3)) (O 8 0 0 (i + 4)))
        refine ⟨O3, ?_⟩
        simp (disch := omega) only [nI_ltI, nI_eq, nI_add, nI_clamp, ib_n, pk_mul, q_and, q_or, q_dn, q_shl, q_shlm, q_p1, if_true, if_false, ↓reduceIte, Option.bind_some, bI_0, bI_1, bI_01, b_or, Nat.not_lt_zero, Nat.zero_add, Bool.false_eq_true, Bool.true_eq_false, or_false, or_true, true_or, false_or, e1, h8, hL, e2]
        exact e3
      rw [if_neg s39]
      by_cases s40 : O 8 0 0 (nI i).toNatClampNeg &&& nI 63 = nI 40
      · rw [if_pos s40]
        obtain ⟨r, O1, O2, e1, h8, e2, c8, O3, e3⟩ := nx _ _ _ (a40)
        refine ⟨O3, ?_⟩
        simp (disch := omega) only [nI_ltI, nI_eq, nI_add, nI_clamp, ib_n, pk_mul, q_and, q_or, q_dn, q_shl, q_shlm, q_p1, if_true, if_false, ↓reduceIte, Option.bind_some, bI_0, bI_1, bI_01, b_or, Nat.not_lt_zero, Nat.zero_add, Bool.false_eq_true, Bool.true_eq_false, or_false, or_true, true_or, false_or, e1, h8, hL, e2]
        exact e3
      rw [if_neg s40]
      by_cases s41 : O 8 0 0 (nI i).toNatClampNeg &&& nI 63 = nI 41
      · rw [if_pos s41]
        obtain ⟨r, O1, O2, e1, h8, e2, c8, O3, e3⟩ := nx _ _ _ (a41 (O 8 0 0 (i + 1)))
        refine ⟨O3, ?_⟩
        simp (disch := omega) only [nI_ltI, nI_eq, nI_add, nI_clamp, ib_n, pk_mul, q_and, q_or, q_dn, q_shl, q_shlm, q_p1, if_true, if_false, ↓reduceIte, Option.bind_some, bI_0, bI_1, bI_01, b_or, Nat.not_lt_zero, Nat.zero_add, Bool.false_eq_true, Bool.true_eq_false, or_false, or_true, true_or, false_or, e1, h8, hL, e2]
        exact e3
      rw [if_neg s41]
      rw [nI_add]
      exact ih (i + 5) O A (by omega) (by omega) hL hw hc hm
end
