/-! THE MODEL READS A TEXT, 2: names. -/
section
variable {b : Nat → Nat} {n : Nat} {O : Mem_} {k : Tk_}
abbrev isB (b : Nat → Nat) (k : Tk_) (L a0 a1 a2 a3 : Nat) : Prop := k.2.2 - k.2.1 = L ∧ b k.2.1 = a0 ∧ b (k.2.1 + 1) = a1 ∧ b (k.2.1 + 2) = a2 ∧ (L < 4 ∨ b (k.2.1 + 3) = a3)
abbrev goB (b : Nat → Nat) (k : Tk_) (a4 a5 a6 : Nat) : Prop := b (k.2.1 + 4) = a4 ∧ (a5 = 0 ∨ b (k.2.1 + 5) = a5) ∧ (a6 = 0 ∨ b (k.2.1 + 6) = a6)
theorem n_is (d : Nat) (hn : n ≤ 400) (hb : ∀ j, b j < 256) (h : MTp (O 7 0) (n, b)) (hk : MK b O k) (wk : WTk b n k) {L a0 a1 a2 a3 : Nat} (hL : 3 ≤ L ∧ L < 8) (ha : a0 < 256 ∧ a1 < 256 ∧ a2 < 256 ∧ a3 < 256) : ex (d + 2) 130 0 [some (vr 7 0 0), some (vi (nI L)), some (vi (nI a0)), some (vi (nI a1)), some (vi (nI a2)), some (vi (nI a3))] [] O = some (bI (decide (isB b k L a0 a1 a2 a3)), O) := by
  have w1 := wk.1
  have w2 := wk.2.1
  have lq : ∀ i c, c < 256 → k.2.1 + i < n → ((lkb b n (k.2.1 + i) = nI c) ↔ b (k.2.1 + i) = c) := fun i c hc hi => (lk_eq hb hc).trans ⟨fun q => q.2, fun q => ⟨hi, q⟩⟩
  have l0 : k.2.1 < n → ((lkb b n k.2.1 = nI a0) ↔ b k.2.1 = a0) := fun hi => lq 0 a0 ha.1 hi
  rw [sX7_is_0, hk.1, hk.2.1, pk_sub w1]
  by_cases z : k.2.2 - k.2.1 = L
  · rw [if_pos (by rw [z]), n_look (d) hn h (by omega)]
    simp only [Option.bind_some]
    rw [hk.2.1]
    by_cases z0 : b k.2.1 = a0
    · rw [if_pos ((l0 (by omega)).mpr z0), nI_add, n_look d hn h (by omega)]
      simp only [Option.bind_some]
      rw [hk.2.1]
      by_cases z1 : b (k.2.1 + 1) = a1
      · rw [if_pos ((lq 1 a1 ha.2.1 (by omega)).mpr z1), nI_add, n_look d hn h (by omega)]
        simp only [Option.bind_some]
        rw [hk.2.1]
        by_cases z2 : b (k.2.1 + 2) = a2
        · rw [if_pos ((lq 2 a2 ha.2.2.1 (by omega)).mpr z2)]
          by_cases z3 : L < 4
          · rw [if_pos (nI_lt z3 (by decide)), decide_eq_true (⟨z, z0, z1, z2, Or.inl z3⟩ : isB b k L a0 a1 a2 a3)]
            rfl
          · rw [if_neg (nI_nlt (show 4 ≤ L by omega) (by omega)), nI_add, n_look d hn h (by omega)]
            simp only [Option.bind_some]
            by_cases z4 : b (k.2.1 + 3) = a3
            · rw [if_pos ((lq 3 a3 ha.2.2.2 (by omega)).mpr z4), decide_eq_true (⟨z, z0, z1, z2, Or.inr z4⟩ : isB b k L a0 a1 a2 a3)]
              rfl
            · rw [if_neg (fun q => z4 ((lq 3 a3 ha.2.2.2 (by omega)).mp q)), decide_eq_false (fun q : isB b k L a0 a1 a2 a3 => q.2.2.2.2.elim z3 z4)]
              rfl
        · rw [if_neg (fun q => z2 ((lq 2 a2 ha.2.2.1 (by omega)).mp q)), decide_eq_false (fun q : isB b k L a0 a1 a2 a3 => z2 q.2.2.2.1)]
          rfl
      · rw [if_neg (fun q => z1 ((lq 1 a1 ha.2.1 (by omega)).mp q)), decide_eq_false (fun q : isB b k L a0 a1 a2 a3 => z1 q.2.2.1)]
        rfl
    · rw [if_neg (fun q => z0 ((l0 (by omega)).mp q)), decide_eq_false (fun q : isB b k L a0 a1 a2 a3 => z0 q.2.1)]
      rfl
  · rw [if_neg (by rw [nI_eq (by omega) (by omega)]; exact z), decide_eq_false (fun q : isB b k L a0 a1 a2 a3 => z q.1)]
    rfl
theorem n_goesOn (d : Nat) (hn : n ≤ 400) (hb : ∀ j, b j < 256) (h : MTp (O 7 0) (n, b)) (hk : MK b O k) (wk : WTk b n k) {a4 a5 a6 : Nat} (hL : 5 ≤ k.2.2 - k.2.1) (h5 : a5 = 0 ∨ 6 ≤ k.2.2 - k.2.1) (h6 : a6 = 0 ∨ 7 ≤ k.2.2 - k.2.1) (ha : a4 < 256 ∧ a5 < 256 ∧ a6 < 256) : ex (d + 2) 131 0 [some (vr 7 0 0), some (vi (nI a4)), some (vi (nI a5)), some (vi (nI a6))] [] O = some (bI (decide (goB b k a4 a5 a6)), O) := by
  have w1 := wk.1
  have w2 := wk.2.1
  have lq : ∀ i c, c < 256 → k.2.1 + i < n → ((lkb b n (k.2.1 + i) = nI c) ↔ b (k.2.1 + i) = c) := fun i c hc hi => (lk_eq hb hc).trans ⟨fun q => q.2, fun q => ⟨hi, q⟩⟩
  have e32 : (b (k.2.1 + 4) = a4 ∧ (a5 = 0 ∨ b (k.2.1 + 5) = a5)) → ex (d + 2) 131 32 [some (vr 7 0 0), none, none, some (vi (nI a6))] [] O = some (bI (decide (goB b k a4 a5 a6)), O) := fun hp => by
    rw [sX7_goesOn_32]
    by_cases z : a6 = 0
    · rw [if_pos (by rw [z]), decide_eq_true (⟨hp.1, hp.2, Or.inl z⟩ : goB b k a4 a5 a6)]
      rfl
    · rw [if_neg (by rw [nI_eq (by omega) (by decide)]; exact z), hk.2.1, nI_add, n_look d hn h (by omega)]
      simp only [Option.bind_some]
      by_cases y : b (k.2.1 + 6) = a6
      · rw [if_pos ((lq 6 a6 ha.2.2 (by omega)).mpr y), decide_eq_true (⟨hp.1, hp.2, Or.inr y⟩ : goB b k a4 a5 a6)]
        rfl
      · rw [if_neg (fun q => y ((lq 6 a6 ha.2.2 (by omega)).mp q)), decide_eq_false (fun q : goB b k a4 a5 a6 => q.2.2.elim z y)]
        rfl
  rw [sX7_goesOn_0, hk.2.1, nI_add, n_look d hn h (by omega)]
  simp only [Option.bind_some]
  by_cases z : b (k.2.1 + 4) = a4
  · rw [if_pos ((lq 4 a4 ha.1 (by omega)).mpr z)]
    by_cases y : a5 = 0
    · rw [if_pos (by rw [y]), e32 ⟨z, Or.inl y⟩]
    · rw [if_neg (by rw [nI_eq (by omega) (by decide)]; exact y), hk.2.1, nI_add, n_look d hn h (by omega)]
      simp only [Option.bind_some]
      by_cases x : b (k.2.1 + 5) = a5
      · rw [if_pos ((lq 5 a5 ha.2.1 (by omega)).mpr x), e32 ⟨z, Or.inr x⟩]
      · rw [if_neg (fun q => x ((lq 5 a5 ha.2.1 (by omega)).mp q)), decide_eq_false (fun q : goB b k a4 a5 a6 => q.2.1.elim y x)]
        rfl
  · rw [if_neg (fun q => z ((lq 4 a4 ha.1 (by omega)).mp q)), decide_eq_false (fun q : goB b k a4 a5 a6 => z q.1)]
    rfl
theorem wrd_len {w : List Nat} (h : wrd b k = w) : k.2.2 - k.2.1 = w.length := by
  rw [← h]; unfold wrd; rw [List.length_map, List.length_range]
theorem wrd_3 {a0 a1 a2 : Nat} : isB b k 3 a0 a1 a2 0 ↔ wrd b k = [a0, a1, a2] := by
  constructor
  · rintro ⟨h, h0, h1, h2, -⟩
    unfold wrd
    rw [h, ← h0, ← h1, ← h2]; rfl
  · intro h
    have hl := wrd_len h
    unfold wrd at h
    rw [show k.2.2 - k.2.1 = 3 from hl] at h
    simp only [List.range, List.range.loop, List.map_cons, List.map_nil, List.cons.injEq, and_true, Nat.add_zero] at h
    exact ⟨hl, h.1, h.2.1, h.2.2, Or.inl (by decide)⟩
theorem wrd_4 {a0 a1 a2 a3 : Nat} : isB b k 4 a0 a1 a2 a3 ↔ wrd b k = [a0, a1, a2, a3] := by
  constructor
  · rintro ⟨h, h0, h1, h2, h3⟩
    have h3 := h3.resolve_left (by decide)
    unfold wrd
    rw [h, ← h0, ← h1, ← h2, ← h3]; rfl
  · intro h
    have hl := wrd_len h
    unfold wrd at h
    rw [show k.2.2 - k.2.1 = 4 from hl] at h
    simp only [List.range, List.range.loop, List.map_cons, List.map_nil, List.cons.injEq, and_true, Nat.add_zero] at h
    exact ⟨hl, h.1, h.2.1, h.2.2.1, Or.inr h.2.2.2⟩
theorem wrd_5 {a0 a1 a2 a3 a4 : Nat} : isB b k 5 a0 a1 a2 a3 ∧ goB b k a4 0 0 ↔ wrd b k = [a0, a1, a2, a3, a4] := by
  constructor
  · rintro ⟨⟨h, h0, h1, h2, h3⟩, h4, -⟩
    have h3 := h3.resolve_left (by decide)
    unfold wrd
    rw [h, ← h0, ← h1, ← h2, ← h3, ← h4]; rfl
  · intro h
    have hl := wrd_len h
    unfold wrd at h
    rw [show k.2.2 - k.2.1 = 5 from hl] at h
    simp only [List.range, List.range.loop, List.map_cons, List.map_nil, List.cons.injEq, and_true, Nat.add_zero] at h
    exact ⟨⟨hl, h.1, h.2.1, h.2.2.1, Or.inr h.2.2.2.1⟩, h.2.2.2.2, Or.inl rfl, Or.inl rfl⟩
theorem wrd_6 {a0 a1 a2 a3 a4 a5 : Nat} (z5 : a5 ≠ 0) : isB b k 6 a0 a1 a2 a3 ∧ goB b k a4 a5 0 ↔ wrd b k = [a0, a1, a2, a3, a4, a5] := by
  constructor
  · rintro ⟨⟨h, h0, h1, h2, h3⟩, h4, h5, -⟩
    have h3 := h3.resolve_left (by decide)
    have h5 := h5.resolve_left z5
    unfold wrd
    rw [h, ← h0, ← h1, ← h2, ← h3, ← h4, ← h5]; rfl
  · intro h
    have hl := wrd_len h
    unfold wrd at h
    rw [show k.2.2 - k.2.1 = 6 from hl] at h
    simp only [List.range, List.range.loop, List.map_cons, List.map_nil, List.cons.injEq, and_true, Nat.add_zero] at h
    exact ⟨⟨hl, h.1, h.2.1, h.2.2.1, Or.inr h.2.2.2.1⟩, h.2.2.2.2.1, Or.inr h.2.2.2.2.2, Or.inl rfl⟩
theorem wrd_7 {a0 a1 a2 a3 a4 a5 a6 : Nat} (z5 : a5 ≠ 0) (z6 : a6 ≠ 0) : isB b k 7 a0 a1 a2 a3 ∧ goB b k a4 a5 a6 ↔ wrd b k = [a0, a1, a2, a3, a4, a5, a6] := by
  constructor
  · rintro ⟨⟨h, h0, h1, h2, h3⟩, h4, h5, h6⟩
    have h3 := h3.resolve_left (by decide)
    have h5 := h5.resolve_left z5
    have h6 := h6.resolve_left z6
    unfold wrd
    rw [h, ← h0, ← h1, ← h2, ← h3, ← h4, ← h5, ← h6]; rfl
  · intro h
    have hl := wrd_len h
    unfold wrd at h
    rw [show k.2.2 - k.2.1 = 7 from hl] at h
    simp only [List.range, List.range.loop, List.map_cons, List.map_nil, List.cons.injEq, and_true, Nat.add_zero] at h
    exact ⟨⟨hl, h.1, h.2.1, h.2.2.1, Or.inr h.2.2.2.1⟩, h.2.2.2.2.1, Or.inr h.2.2.2.2.2.1, Or.inr h.2.2.2.2.2.2⟩
theorem w_one (d : Nat) (hn : n ≤ 400) (hb : ∀ j, b j < 256) (h : MTp (O 7 0) (n, b)) (hk : MK b O k) (wk : WTk b n k) {L a0 a1 a2 a3 : Nat} (hL : 3 ≤ L ∧ L < 8) (ha : a0 < 256 ∧ a1 < 256 ∧ a2 < 256 ∧ a3 < 256) {w : List Nat} (hw : isB b k L a0 a1 a2 a3 ↔ wrd b k = w) {F : Option (Int32 × Mem_)} (X : Mem_ → Option (Int32 × Mem_)) (R : Int32) (hF : F = (ex (d + 2) 130 0 [some (vr 7 0 0), some (vi (nI L)), some (vi (nI a0)), some (vi (nI a1)), some (vi (nI a2)), some (vi (nI a3))] [] O).bind fun r0 => if r0.1 = nI 0 then X r0.2 else some (R, r0.2)) : F = if wrd b k = w then some (R, O) else X O := by
  rw [hF, n_is d hn hb h hk wk hL ha]
  simp only [Option.bind_some]
  by_cases z : isB b k L a0 a1 a2 a3
  · rw [decide_eq_true z, if_neg (show ¬ bI true = nI 0 by decide), if_pos (hw.mp z)]
  · rw [decide_eq_false z, if_pos bI_f, if_neg (fun q => z (hw.mpr q))]
theorem w_two (d : Nat) (hn : n ≤ 400) (hb : ∀ j, b j < 256) (h : MTp (O 7 0) (n, b)) (hk : MK b O k) (wk : WTk b n k) {L a0 a1 a2 a3 a4 a5 a6 : Nat} (hL : 5 ≤ L ∧ L < 8) (ha : a0 < 256 ∧ a1 < 256 ∧ a2 < 256 ∧ a3 < 256) (ha' : a4 < 256 ∧ a5 < 256 ∧ a6 < 256) (h5 : a5 = 0 ∨ 6 ≤ L) (h6 : a6 = 0 ∨ 7 ≤ L) {w : List Nat} (hw : isB b k L a0 a1 a2 a3 ∧ goB b k a4 a5 a6 ↔ wrd b k = w) {F : Option (Int32 × Mem_)} (X : Mem_ → Option (Int32 × Mem_)) (R : Int32) (hF : F = (ex (d + 2) 130 0 [some (vr 7 0 0), some (vi (nI L)), some (vi (nI a0)), some (vi (nI a1)), some (vi (nI a2)), some (vi (nI a3))] [] O).bind fun r0 => if r0.1 = nI 0 then X r0.2 else (ex (d + 2) 131 0 [some (vr 7 0 0), some (vi (nI a4)), some (vi (nI a5)), some (vi (nI a6))] [] r0.2).bind fun r1 => if r1.1 = nI 0 then X r1.2 else some (R, r1.2)) : F = if wrd b k = w then some (R, O) else X O := by
  rw [hF, n_is d hn hb h hk wk ⟨by omega, hL.2⟩ ha]
  simp only [Option.bind_some]
  by_cases z : isB b k L a0 a1 a2 a3
  · have hl : k.2.2 - k.2.1 = L := z.1
    rw [decide_eq_true z, if_neg (show ¬ bI true = nI 0 by decide), n_goesOn d hn hb h hk wk (by omega) (by omega) (by omega) ha']
    simp only [Option.bind_some]
    by_cases y : goB b k a4 a5 a6
    · rw [decide_eq_true y, if_neg (show ¬ bI true = nI 0 by decide), if_pos (hw.mp ⟨z, y⟩)]
    · rw [decide_eq_false y, if_pos bI_f, if_neg (fun q => y (hw.mpr q).2)]
  · rw [decide_eq_false z, if_pos bI_f, if_neg (fun q => z (hw.mpr q).1)]
theorem n_kindNow (d : Nat) (hn : n ≤ 400) (hb : ∀ j, b j < 256) (h : MTp (O 7 0) (n, b)) (hk : MK b O k) (wk : WTk b n k) : ex (d + 3) 132 0 [some (vr 7 0 0)] [] O = some (oI (if wrd b k = w_plain then some 0 else if wrd b k = w_last then some 1 else if wrd b k = w_careful then some 2 else if wrd b k = w_proud then some 3 else none), O) := by
  have s0 := w_two d hn hb h hk wk (L := 5) (a0 := 112) (a1 := 108) (a2 := 97) (a3 := 105) (a4 := 110) (a5 := 0) (a6 := 0) (by decide) (by decide) (by decide) (by decide) (by decide) wrd_5 (fun O => ex (d + 3) 132 29 [some (vr 7 0 0)] [] O) (nI 0) (sX7_kindNow_0 (d + 2) O)
  have s1 := w_one d hn hb h hk wk (L := 4) (a0 := 108) (a1 := 97) (a2 := 115) (a3 := 116) (by decide) (by decide) wrd_4 (fun O => (ex (d + 2) 130 0 [some (vr 7 0 0), some (vi (nI 7)), some (vi (nI 99)), some (vi (nI 97)), some (vi (nI 114)), some (vi (nI 101))] [] O).bind fun r1 => if r1.1 = nI 0 then (ex (d + 2 + 1) 132 79 [some (vr 7 0 0)] [] r1.2) else ((ex (d + 2) 131 0 [some (vr 7 0 0), some (vi (nI 102)), some (vi (nI 117)), some (vi (nI 108))] [] r1.2).bind fun r2 => if r2.1 = nI 0 then (ex (d + 2 + 1) 132 79 [some (vr 7 0 0)] [] r2.2) else (some ((nI 2), r2.2)))) (nI 1) (sX7_kindNow_29 (d + 2) O)
  have s2 := w_two d hn hb h hk wk (L := 7) (a0 := 99) (a1 := 97) (a2 := 114) (a3 := 101) (a4 := 102) (a5 := 117) (a6 := 108) (by decide) (by decide) (by decide) (by decide) (by decide) (wrd_7 (by decide) (by decide)) (fun O => ex (d + 3) 132 79 [some (vr 7 0 0)] [] O) (nI 2) (F := (ex (d + 2) 130 0 [some (vr 7 0 0), some (vi (nI 7)), some (vi (nI 99)), some (vi (nI 97)), some (vi (nI 114)), some (vi (nI 101))] [] O).bind fun r1 => if r1.1 = nI 0 then (ex (d + 2 + 1) 132 79 [some (vr 7 0 0)] [] r1.2) else ((ex (d + 2) 131 0 [some (vr 7 0 0), some (vi (nI 102)), some (vi (nI 117)), some (vi (nI 108))] [] r1.2).bind fun r2 => if r2.1 = nI 0 then (ex (d + 2 + 1) 132 79 [some (vr 7 0 0)] [] r2.2) else (some ((nI 2), r2.2)))) rfl
  have s3 := w_two d hn hb h hk wk (L := 5) (a0 := 112) (a1 := 114) (a2 := 111) (a3 := 117) (a4 := 100) (a5 := 0) (a6 := 0) (by decide) (by decide) (by decide) (by decide) (by decide) wrd_5 (fun O => some (oI none, O)) (nI 3) (sX7_kindNow_79 (d + 2) O)
  refine s0.trans ?_
  by_cases z0 : wrd b k = w_plain
  · rw [if_pos z0]; exact (if_pos z0)
  · rw [if_neg z0]
    refine (if_neg z0).trans (s1.trans ?_)
    by_cases z1 : wrd b k = w_last
    · rw [if_pos z1]; exact (if_pos z1)
    · rw [if_neg z1]
      refine (if_neg z1).trans (s2.trans ?_)
      by_cases z2 : wrd b k = w_careful
      · rw [if_pos z2]; exact (if_pos z2)
      · rw [if_neg z2]
        refine (if_neg z2).trans (s3.trans ?_)
        by_cases z3 : wrd b k = w_proud
        · rw [if_pos z3]; exact (if_pos z3)
        · rw [if_neg z3]
          exact (if_neg z3)
theorem n_nameNow (d : Nat) (hn : n ≤ 400) (hb : ∀ j, b j < 256) (h : MTp (O 7 0) (n, b)) (hk : MK b O k) (wk : WTk b n k) : ex (d + 4) 133 0 [some (vr 7 0 0)] [] O = some (oI (codeW (wrd b k)), O) := by
  have kn := n_kindNow d hn hb h hk wk
  have st := sX7_nameNow_0 (d + 3) O
  rw [kn] at st
  simp only [Option.bind_some] at st
  have s0 := w_two (d + 1) hn hb h hk wk (L := 5) (a0 := 116) (a1 := 104) (a2 := 105) (a3 := 110) (a4 := 103) (a5 := 0) (a6 := 0) (by decide) (by decide) (by decide) (by decide) (by decide) wrd_5 (fun O => ex (d + 4) 133 44 [some (vr 7 0 0)] [] O) (nI 10) (F := (ex (d + 3) 130 0 [some (vr 7 0 0), some (vi (nI 5)), some (vi (nI 116)), some (vi (nI 104)), some (vi (nI 105)), some (vi (nI 110))] [] O).bind fun r1 => if r1.1 = nI 0 then (ex (d + 3 + 1) 133 44 [some (vr 7 0 0)] [] r1.2) else ((ex (d + 3) 131 0 [some (vr 7 0 0), some (vi (nI 103)), some (vi (nI 0)), some (vi (nI 0))] [] r1.2).bind fun r2 => if r2.1 = nI 0 then (ex (d + 3 + 1) 133 44 [some (vr 7 0 0)] [] r2.2) else (some ((nI 10), r2.2)))) rfl
  have s1 := w_two (d + 1) hn hb h hk wk (L := 5) (a0 := 109) (a1 := 101) (a2 := 97) (a3 := 110) (a4 := 115) (a5 := 0) (a6 := 0) (by decide) (by decide) (by decide) (by decide) (by decide) wrd_5 (fun O => ex (d + 4) 133 74 [some (vr 7 0 0)] [] O) (nI 11) (sX7_nameNow_44 (d + 3) O)
  have s2 := w_one (d + 1) hn hb h hk wk (L := 4) (a0 := 119) (a1 := 111) (a2 := 114) (a3 := 100) (by decide) (by decide) wrd_4 (fun O => (ex (d + 3) 130 0 [some (vr 7 0 0), some (vi (nI 3)), some (vi (nI 110)), some (vi (nI 111)), some (vi (nI 116)), some (vi (nI 0))] [] O).bind fun r1 => if r1.1 = nI 0 then ((ex (d + 3) 130 0 [some (vr 7 0 0), some (vi (nI 4)), some (vi (nI 115)), some (vi (nI 101)), some (vi (nI 101)), some (vi (nI 115))] [] r1.2).bind fun r2 => if r2.1 = nI 0 then ((ex (d + 3) 130 0 [some (vr 7 0 0), some (vi (nI 5)), some (vi (nI 102)), some (vi (nI 101)), some (vi (nI 97)), some (vi (nI 114))] [] r2.2).bind fun r3 => if r3.1 = nI 0 then (ex (d + 3 + 1) 133 160 [some (vr 7 0 0)] [] r3.2) else ((ex (d + 3) 131 0 [some (vr 7 0 0), some (vi (nI 115)), some (vi (nI 0)), some (vi (nI 0))] [] r3.2).bind fun r4 => if r4.1 = nI 0 then (ex (d + 3 + 1) 133 160 [some (vr 7 0 0)] [] r4.2) else (some ((nI 15), r4.2)))) else (some ((nI 14), r2.2))) else (some ((nI 13), r1.2))) (nI 12) (sX7_nameNow_74 (d + 3) O)
  have s3 := w_one (d + 1) hn hb h hk wk (L := 3) (a0 := 110) (a1 := 111) (a2 := 116) (a3 := 0) (by decide) (by decide) wrd_3 (fun O => (ex (d + 3) 130 0 [some (vr 7 0 0), some (vi (nI 4)), some (vi (nI 115)), some (vi (nI 101)), some (vi (nI 101)), some (vi (nI 115))] [] O).bind fun r2 => if r2.1 = nI 0 then ((ex (d + 3) 130 0 [some (vr 7 0 0), some (vi (nI 5)), some (vi (nI 102)), some (vi (nI 101)), some (vi (nI 97)), some (vi (nI 114))] [] r2.2).bind fun r3 => if r3.1 = nI 0 then (ex (d + 3 + 1) 133 160 [some (vr 7 0 0)] [] r3.2) else ((ex (d + 3) 131 0 [some (vr 7 0 0), some (vi (nI 115)), some (vi (nI 0)), some (vi (nI 0))] [] r3.2).bind fun r4 => if r4.1 = nI 0 then (ex (d + 3 + 1) 133 160 [some (vr 7 0 0)] [] r4.2) else (some ((nI 15), r4.2)))) else (some ((nI 14), r2.2))) (nI 13) (F := (ex (d + 3) 130 0 [some (vr 7 0 0), some (vi (nI 3)), some (vi (nI 110)), some (vi (nI 111)), some (vi (nI 116)), some (vi (nI 0))] [] O).bind fun r1 => if r1.1 = nI 0 then ((ex (d + 3) 130 0 [some (vr 7 0 0), some (vi (nI 4)), some (vi (nI 115)), some (vi (nI 101)), some (vi (nI 101)), some (vi (nI 115))] [] r1.2).bind fun r2 => if r2.1 = nI 0 then ((ex (d + 3) 130 0 [some (vr 7 0 0), some (vi (nI 5)), some (vi (nI 102)), some (vi (nI 101)), some (vi (nI 97)), some (vi (nI 114))] [] r2.2).bind fun r3 => if r3.1 = nI 0 then (ex (d + 3 + 1) 133 160 [some (vr 7 0 0)] [] r3.2) else ((ex (d + 3) 131 0 [some (vr 7 0 0), some (vi (nI 115)), some (vi (nI 0)), some (vi (nI 0))] [] r3.2).bind fun r4 => if r4.1 = nI 0 then (ex (d + 3 + 1) 133 160 [some (vr 7 0 0)] [] r4.2) else (some ((nI 15), r4.2)))) else (some ((nI 14), r2.2))) else (some ((nI 13), r1.2))) rfl
  have s4 := w_one (d + 1) hn hb h hk wk (L := 4) (a0 := 115) (a1 := 101) (a2 := 101) (a3 := 115) (by decide) (by decide) wrd_4 (fun O => (ex (d + 3) 130 0 [some (vr 7 0 0), some (vi (nI 5)), some (vi (nI 102)), some (vi (nI 101)), some (vi (nI 97)), some (vi (nI 114))] [] O).bind fun r3 => if r3.1 = nI 0 then (ex (d + 3 + 1) 133 160 [some (vr 7 0 0)] [] r3.2) else ((ex (d + 3) 131 0 [some (vr 7 0 0), some (vi (nI 115)), some (vi (nI 0)), some (vi (nI 0))] [] r3.2).bind fun r4 => if r4.1 = nI 0 then (ex (d + 3 + 1) 133 160 [some (vr 7 0 0)] [] r4.2) else (some ((nI 15), r4.2)))) (nI 14) (F := (ex (d + 3) 130 0 [some (vr 7 0 0), some (vi (nI 4)), some (vi (nI 115)), some (vi (nI 101)), some (vi (nI 101)), some (vi (nI 115))] [] O).bind fun r2 => if r2.1 = nI 0 then ((ex (d + 3) 130 0 [some (vr 7 0 0), some (vi (nI 5)), some (vi (nI 102)), some (vi (nI 101)), some (vi (nI 97)), some (vi (nI 114))] [] r2.2).bind fun r3 => if r3.1 = nI 0 then (ex (d + 3 + 1) 133 160 [some (vr 7 0 0)] [] r3.2) else ((ex (d + 3) 131 0 [some (vr 7 0 0), some (vi (nI 115)), some (vi (nI 0)), some (vi (nI 0))] [] r3.2).bind fun r4 => if r4.1 = nI 0 then (ex (d + 3 + 1) 133 160 [some (vr 7 0 0)] [] r4.2) else (some ((nI 15), r4.2)))) else (some ((nI 14), r2.2))) rfl
  have s5 := w_two (d + 1) hn hb h hk wk (L := 5) (a0 := 102) (a1 := 101) (a2 := 97) (a3 := 114) (a4 := 115) (a5 := 0) (a6 := 0) (by decide) (by decide) (by decide) (by decide) (by decide) wrd_5 (fun O => ex (d + 4) 133 160 [some (vr 7 0 0)] [] O) (nI 15) (F := (ex (d + 3) 130 0 [some (vr 7 0 0), some (vi (nI 5)), some (vi (nI 102)), some (vi (nI 101)), some (vi (nI 97)), some (vi (nI 114))] [] O).bind fun r3 => if r3.1 = nI 0 then (ex (d + 3 + 1) 133 160 [some (vr 7 0 0)] [] r3.2) else ((ex (d + 3) 131 0 [some (vr 7 0 0), some (vi (nI 115)), some (vi (nI 0)), some (vi (nI 0))] [] r3.2).bind fun r4 => if r4.1 = nI 0 then (ex (d + 3 + 1) 133 160 [some (vr 7 0 0)] [] r4.2) else (some ((nI 15), r4.2)))) rfl
  have s6 := w_two (d + 1) hn hb h hk wk (L := 6) (a0 := 117) (a1 := 110) (a2 := 108) (a3 := 105) (a4 := 107) (a5 := 101) (a6 := 0) (by decide) (by decide) (by decide) (by decide) (by decide) (wrd_6 (by decide)) (fun O => ex (d + 4) 133 192 [some (vr 7 0 0)] [] O) (nI 16) (sX7_nameNow_160 (d + 3) O)
  have s7 := w_two (d + 1) hn hb h hk wk (L := 6) (a0 := 99) (a1 := 104) (a2 := 97) (a3 := 110) (a4 := 99) (a5 := 101) (a6 := 0) (by decide) (by decide) (by decide) (by decide) (by decide) (wrd_6 (by decide)) (fun O => some (oI none, O)) (nI 17) (sX7_nameNow_192 (d + 3) O)
  unfold codeW
  by_cases y0 : wrd b k = w_plain
  · rw [if_pos y0, if_neg (show ¬ oI (some 0) = oI none by decide), kn, if_pos y0] at st
    rw [if_pos y0]; exact st
  · by_cases y1 : wrd b k = w_last
    · rw [if_neg y0, if_pos y1, if_neg (show ¬ oI (some 1) = oI none by decide), kn, if_neg y0, if_pos y1] at st
      rw [if_neg y0, if_pos y1]; exact st
    · by_cases y2 : wrd b k = w_careful
      · rw [if_neg y0, if_neg y1, if_pos y2, if_neg (show ¬ oI (some 2) = oI none by decide), kn, if_neg y0, if_neg y1, if_pos y2] at st
        rw [if_neg y0, if_neg y1, if_pos y2]; exact st
      · by_cases y3 : wrd b k = w_proud
        · rw [if_neg y0, if_neg y1, if_neg y2, if_pos y3, if_neg (show ¬ oI (some 3) = oI none by decide), kn, if_neg y0, if_neg y1, if_neg y2, if_pos y3] at st
          rw [if_neg y0, if_neg y1, if_neg y2, if_pos y3]; exact st
        · rw [if_neg y0, if_neg y1, if_neg y2, if_neg y3, if_pos (show oI none = oI none from rfl)] at st
          rw [if_neg y0, if_neg y1, if_neg y2, if_neg y3]
          refine st.trans ?_
          refine s0.trans ?_
          by_cases z0 : wrd b k = w_thing
          · rw [if_pos z0]; exact (if_pos z0)
          · rw [if_neg z0]
            refine (if_neg z0).trans (s1.trans ?_)
            by_cases z1 : wrd b k = w_means
            · rw [if_pos z1]; exact (if_pos z1)
            · rw [if_neg z1]
              refine (if_neg z1).trans (s2.trans ?_)
              by_cases z2 : wrd b k = w_word
              · rw [if_pos z2]; exact (if_pos z2)
              · rw [if_neg z2]
                refine (if_neg z2).trans (s3.trans ?_)
                by_cases z3 : wrd b k = w_not
                · rw [if_pos z3]; exact (if_pos z3)
                · rw [if_neg z3]
                  refine (if_neg z3).trans (s4.trans ?_)
                  by_cases z4 : wrd b k = w_sees
                  · rw [if_pos z4]; exact (if_pos z4)
                  · rw [if_neg z4]
                    refine (if_neg z4).trans (s5.trans ?_)
                    by_cases z5 : wrd b k = w_fears
                    · rw [if_pos z5]; exact (if_pos z5)
                    · rw [if_neg z5]
                      refine (if_neg z5).trans (s6.trans ?_)
                      by_cases z6 : wrd b k = w_unlike
                      · rw [if_pos z6]; exact (if_pos z6)
                      · rw [if_neg z6]
                        refine (if_neg z6).trans (s7.trans ?_)
                        by_cases z7 : wrd b k = w_chance
                        · rw [if_pos z7]; exact (if_pos z7)
                        · rw [if_neg z7]
                          exact (if_neg z7)
end
