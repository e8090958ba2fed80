/-! THE CLASS READS A TEXT, 2: letters, numbers. -/
section
variable {b : Nat → Nat} {n : Nat}
theorem oI_e {a : Option Nat} {c : Nat} (h : a = some c) : oI a = nI c := by rw [h]; rfl
theorem c_sortNamed (d : Nat) (hn : n ≤ 400) (hb : ∀ j, b j < 256) {O : Mem_} {k : Tk_} (h : CTp (O 3 0) (n, b)) (hk : CK O k) (wk : WTk b n k) : ex (d + 3) 28 0 [some (vr 3 0 0)] [] O = some (oI ((codeK b k).bind fun c => if c ≤ 3 then some c else none), O) := by
  have nm := c_named d hn hb h hk wk
  rw [sX3_sortNamed_0, nm 3 (by decide)]
  simp only [Option.bind_some]
  by_cases z0 : codeK b k = some 0
  · rw [z0]; rfl
  rw [decide_eq_false (show ¬ codeK b k = some ([10, 11, 12, 0, 1, 2, 3, 13, 14, 15, 16, 17].getD 3 0) from z0), if_pos bI_f, nm 4 (by decide)]
  simp only [Option.bind_some]
  by_cases z1 : codeK b k = some 1
  · rw [z1]; rfl
  rw [decide_eq_false (show ¬ codeK b k = some ([10, 11, 12, 0, 1, 2, 3, 13, 14, 15, 16, 17].getD 4 0) from z1), if_pos bI_f, nm 5 (by decide)]
  simp only [Option.bind_some]
  by_cases z2 : codeK b k = some 2
  · rw [z2]; rfl
  rw [decide_eq_false (show ¬ codeK b k = some ([10, 11, 12, 0, 1, 2, 3, 13, 14, 15, 16, 17].getD 5 0) from z2), if_pos bI_f, nm 6 (by decide)]
  simp only [Option.bind_some]
  by_cases z3 : codeK b k = some 3
  · rw [z3]; rfl
  rw [decide_eq_false (show ¬ codeK b k = some ([10, 11, 12, 0, 1, 2, 3, 13, 14, 15, 16, 17].getD 6 0) from z3), if_pos bI_f]
  cases hq : codeK b k with
  | none => rfl
  | some c =>
    rw [hq] at z0 z1 z2 z3
    simp only [Option.bind_some]
    rw [if_neg]
    intro hc
    rcases (by omega : c = 0 ∨ c = 1 ∨ c = 2 ∨ c = 3) with rfl | rfl | rfl | rfl
    · exact z0 rfl
    · exact z1 rfl
    · exact z2 rfl
    · exact z3 rfl
theorem c_withNamed (d : Nat) (hn : n ≤ 400) (hb : ∀ j, b j < 256) {O : Mem_} {k : Tk_} (h : CTp (O 3 0) (n, b)) (hk : CK O k) (wk : WTk b n k) : ex (d + 3) 33 0 [some (vr 3 0 0)] [] O = some (oI ((wcd b k).map (· + 1)), O) := by
  have nm := c_named d hn hb h hk wk
  rw [sX3_withNamed_0, nm 8 (by decide)]
  unfold wcd
  simp only [Option.bind_some]
  by_cases z0 : codeK b k = some 14
  · rw [z0]; rfl
  rw [decide_eq_false (show ¬ codeK b k = some ([10, 11, 12, 0, 1, 2, 3, 13, 14, 15, 16, 17].getD 8 0) from z0), if_pos bI_f, nm 9 (by decide)]
  simp only [Option.bind_some]
  by_cases z1 : codeK b k = some 15
  · rw [z1]; rfl
  rw [decide_eq_false (show ¬ codeK b k = some ([10, 11, 12, 0, 1, 2, 3, 13, 14, 15, 16, 17].getD 9 0) from z1), if_pos bI_f, nm 10 (by decide)]
  simp only [Option.bind_some]
  by_cases z2 : codeK b k = some 16
  · rw [z2]; rfl
  rw [decide_eq_false (show ¬ codeK b k = some ([10, 11, 12, 0, 1, 2, 3, 13, 14, 15, 16, 17].getD 10 0) from z2), if_pos bI_f, nm 11 (by decide)]
  simp only [Option.bind_some]
  by_cases z3 : codeK b k = some 17
  · rw [z3]; rfl
  rw [decide_eq_false (show ¬ codeK b k = some ([10, 11, 12, 0, 1, 2, 3, 13, 14, 15, 16, 17].getD 11 0) from z3), if_pos bI_f]
  cases hq : codeK b k with
  | none => rfl
  | some c =>
    rw [hq] at z0 z1 z2 z3
    simp only [Option.bind_some]
    rw [if_neg]
    · rfl
    intro hc
    have : codeW (wrd b k) = some c := by
      unfold codeK at hq
      split at hq
      · exact hq
      · cases hq
    have := codeW_some this
    rcases (by omega : c = 14 ∨ c = 15 ∨ c = 16 ∨ c = 17) with rfl | rfl | rfl | rfl
    · exact z0 rfl
    · exact z1 rfl
    · exact z2 rfl
    · exact z3 rfl
/-- what takeLetters, takeNumber leave -/
def RV (O : Mem_) (x : Int32) (r : Pr_ (Nat × Tk_)) : Prop := match r with
  | .ok p => x = nI p.1 ∧ CK O p.2
  | .error e => CE O e
theorem c_letters (d : Nat) (hn : n ≤ 400) {O : Mem_} {k : Tk_} {fb : Nat} (hfb : fb < 256) (h : CTp (O 3 0) (n, b)) (hk : CK O k) (wk : WTk b n k) (k1 : k.1 = 1) : ∀ (r i a : Nat), i + r = k.2.2 → k.2.1 ≤ i → a < 256 → ex (d + 2) 34 39 [some (vr 3 0 0), some (vi (nI fb)), some (vi (nI a)), some (vi (nI i))] [] O = match lets b fb r i a with
    | some v => ex (d + 2) 34 103 [some (vr 3 0 0), none, some (vi (nI v))] [] O
    | none => ex (d + 2) 34 83 [some (vr 3 0 0)] [] O
  | 0, i, a, hi, _, _ => by
    have w2 := wk.2.1
    refine (sX3_takeLetters_39 ..).trans ?_
    rw [hk.2.2.2.1, if_neg (nI_nlt (show k.2.2 ≤ i by omega) (by omega))]
    rfl
  | r + 1, i, a, hi, hs, ha => by
    have w2 := wk.2.1
    have cb := cls_1 ((wk.2.2.2.2.1 (Or.inl k1) i hs (by omega)).trans k1)
    refine (sX3_takeLetters_39 ..).trans ?_
    rw [hk.2.2.2.1, if_pos (nI_lt (show i < k.2.2 by omega) (by omega)), hk.2.1, if_pos (by rw [k1]), c_byteAt d hn h (by omega), if_pos (show i < n by omega)]
    simp only [Option.bind_some]
    rw [pk_sub cb.1]
    unfold lets
    by_cases z : b i - 97 < 8
    · have hor : a ||| fb < 256 := Nat.or_lt_two_pow (n := 8) ha hfb
      rw [if_pos (nI_lt z (by decide)), q_or, m_isIn _ _ (by omega) (by omega)]
      simp only [Option.bind_some]
      cases y : (a ||| fb).testBit (b i - 97) with
      | false =>
        have hp : (2:Nat) ^ (b i - 97) < 2 ^ 8 := Nat.pow_lt_pow_right (by decide) z
        rw [if_pos bI_f, if_pos ⟨z, rfl⟩, q_shl _ (by omega), q_or, nI_add]
        exact c_letters d hn hfb h hk wk k1 r (i + 1) _ (by omega) (by omega) (Nat.or_lt_two_pow (n := 8) ha hp)
      | true =>
        rw [if_neg (show ¬ bI true = nI 0 by decide), if_neg (fun q => by cases q.2)]
    · rw [if_neg (nI_nlt (show 8 ≤ b i - 97 by omega) (by omega)), if_neg (fun q => z q.1)]
/-- the end of both: the next token -/
theorem RV_nxt {O' : Mem_} {v e : Nat} {r : Pr_ Tk_} (h : RT O' r) : RV O' (nI v) (bnd r fun q => .ok (v, q)) := by
  cases r with
  | error e => exact h
  | ok q => exact ⟨rfl, h⟩
theorem c_takeLetters (d : Nat) (hn : n ≤ 400) (hb : ∀ j, b j < 256) {O : Mem_} {k : Tk_} {fb : Nat} (hfb : fb < 256) (h : CTp (O 3 0) (n, b)) (hk : CK O k) (wk : WTk b n k) : ∃ x O', ex (d + 5) 34 0 [some (vr 3 0 0), some (vi (nI fb))] [] O = some (x, O') ∧ Fx O O' ∧ RV O' x (tkL b n fb k) := by
  have w1 := wk.1
  have w2 := wk.2.1
  have w3 := wk.2.2.1
  have st := sX3_takeLetters_0 (d + 4) O (nI fb)
  rw [hk.2.2.2.2, if_pos rfl, hk.2.1, hk.2.2.1] at st
  obtain ⟨O', e, f, r⟩ := c_nextToken d hn hb h wk.2.1 hk.1 hk.2.2.2.2
  have fin : ∀ v, ex (d + 5) 34 103 [some (vr 3 0 0), none, some (vi (nI v))] [] O = some (nI v, O') := fun v => by
    rw [sX3_takeLetters_103, e]; rfl
  unfold tkL
  by_cases z1 : k.1 = 1
  · rw [if_pos (by rw [z1])] at st
    rw [if_pos z1]
    have lt := c_letters (d + 3) hn hfb h hk wk z1 (k.2.2 - k.2.1) k.2.1 0 (by omega) (Nat.le_refl _) (by decide)
    have st2 := st.trans lt
    cases hq : lets b fb (k.2.2 - k.2.1) k.2.1 0 with
    | none =>
      rw [hq] at st2
      obtain ⟨O2, e2, f2, g2⟩ := c_blame (d + 3) (f := 3) hk.2.2.1 (by decide) (by omega)
      exact ⟨_, O2, st2.trans ((sX3_takeLetters_83 ..).trans (by rw [e2]; rfl)), f2, g2⟩
    | some v =>
      rw [hq] at st2
      exact ⟨_, O', st2.trans (fin v), f, RV_nxt (e := 0) r⟩
  · rw [if_neg (by rw [nI_eq (by omega) (by decide)]; exact z1)] at st
    rw [if_neg z1]
    by_cases z4 : k.1 = 4
    · rw [if_pos (by rw [z4])] at st
      rw [if_pos z4]
      have l39 : ex (d + 5) 34 39 [some (vr 3 0 0), some (vi (nI fb)), some (vi (nI 0)), some (vi (nI k.2.1))] [] O = ex (d + 5) 34 103 [some (vr 3 0 0), none, some (vi (nI 0))] [] O := by
        refine (sX3_takeLetters_39 ..).trans ?_
        rw [hk.2.1, if_neg (show ¬ nI k.1 = nI 1 by rw [nI_eq (by omega) (by decide)]; exact z1), ite_self]
      exact ⟨_, O', st.trans (l39.trans (fin 0)), f, RV_nxt (e := 0) r⟩
    · rw [if_neg (by rw [nI_eq (by omega) (by decide)]; exact z4)] at st
      rw [if_neg z4]
      obtain ⟨O2, e2, f2, g2⟩ := c_blame (d + 3) (f := 2) hk.2.2.1 (by decide) (by omega)
      rw [show d + 4 = d + 3 + 1 from rfl, e2] at st
      exact ⟨_, O2, st, f2, g2⟩
theorem c_fault (d : Nat) {O : Mem_} {x1 : Int32} {e : Nat × Nat} (h : CE O e) : ex (d + 1) 34 0 [some (vr 3 0 0), some (vi x1)] [] O = some (nI 0, O) ∧ ex (d + 1) 35 0 [some (vr 3 0 0), some (vi x1)] [] O = some (nI 0, O) := by
  have hne : ¬ O 3 0 0 2 = nI 0 := by rw [h.1, nI_eq (by have := h.2.2.2.1; omega) (by decide)]; have := h.2.2.1; omega
  exact ⟨by rw [sX3_takeLetters_0, if_neg hne], by rw [sX3_takeNumber_0, if_neg hne]⟩
theorem c_digits (d : Nat) (hn : n ≤ 400) {O : Mem_} {k : Tk_} {x1 : Int32} (h : CTp (O 3 0) (n, b)) (hk : CK O k) (wk : WTk b n k) (k2 : k.1 = 2) : ∀ (r i v : Nat), i + r = k.2.2 → k.2.1 ≤ i → ∃ y, y = ex (d + 2) 35 31 [some (vr 3 0 0), some (vi x1), some (vi (nI (nums b r i v))), some (vi (nI k.2.2))] [] O ∧ ex (d + 2) 35 31 [some (vr 3 0 0), some (vi x1), some (vi (nI v)), some (vi (nI i))] [] O = y
  | 0, i, v, hi, _ => ⟨_, rfl, by rw [show i = k.2.2 by omega]; rfl⟩
  | r + 1, i, v, hi, hs => by
    have w2 := wk.2.1
    have cb := cls_2 ((wk.2.2.2.2.1 (Or.inr k2) i hs (by omega)).trans k2)
    obtain ⟨y, h1, h2⟩ := c_digits d hn (x1 := x1) h hk wk k2 r (i + 1) (v * 10 + (b i - 48)) (by omega) (by omega)
    refine ⟨y, h1, Eq.trans ?_ h2⟩
    refine (sX3_takeNumber_31 ..).trans ?_
    rw [hk.2.2.2.1, if_pos (nI_lt (show i < k.2.2 by omega) (by omega)), c_byteAt d hn h (by omega), if_pos (show i < n by omega)]
    simp only [Option.bind_some]
    rw [pk_mul, nI_add, pk_sub (show 48 ≤ v * 10 + b i by omega), nI_add, show v * 10 + b i - 48 = v * 10 + (b i - 48) by omega]
theorem c_takeNumber (d : Nat) (hn : n ≤ 400) (hb : ∀ j, b j < 256) {O : Mem_} {k : Tk_} {bd : Nat} (hbd : bd < 256) (h : CTp (O 3 0) (n, b)) (hk : CK O k) (wk : WTk b n k) : ∃ x O', ex (d + 5) 35 0 [some (vr 3 0 0), some (vi (nI bd))] [] O = some (x, O') ∧ Fx O O' ∧ RV O' x (tkN b n bd k) := by
  have w1 := wk.1
  have w2 := wk.2.1
  have w3 := wk.2.2.1
  have st := sX3_takeNumber_0 (d + 4) O (nI bd)
  rw [hk.2.2.2.2, if_pos rfl, hk.2.1, hk.2.2.1] at st
  obtain ⟨O', e, f, r⟩ := c_nextToken d hn hb h wk.2.1 hk.1 hk.2.2.2.2
  unfold tkN
  by_cases z1 : k.1 = 2
  · rw [if_pos (by rw [z1])] at st
    rw [if_pos z1]
    have hv := nmv_lt wk z1
    obtain ⟨y, h1, h2⟩ := c_digits (d + 3) hn (x1 := nI bd) h hk wk z1 (k.2.2 - k.2.1) k.2.1 0 (by omega) (Nat.le_refl _)
    have st2 := (st.trans h2).trans h1
    have s31 := sX3_takeNumber_31 (d + 4) O (nI bd) (nI (nmv b k)) (nI k.2.2)
    rw [hk.2.2.2.1, if_neg (nI_nlt (Nat.le_refl _) (by omega))] at s31
    have st3 := st2.trans s31
    by_cases y : nmv b k < bd
    · rw [if_pos (nI_lt y (by omega)), e] at st3
      rw [if_pos y]
      exact ⟨_, O', st3, f, RV_nxt (e := 0) r⟩
    · rw [if_neg (nI_nlt (show bd ≤ nmv b k by omega) (by omega))] at st3
      rw [if_neg y]
      obtain ⟨O2, e2, f2, g2⟩ := c_blame (d + 3) (f := 3) hk.2.2.1 (by decide) (by omega)
      rw [show d + 4 = d + 3 + 1 from rfl, e2] at st3
      exact ⟨_, O2, st3, f2, g2⟩
  · rw [if_neg (by rw [nI_eq (by omega) (by decide)]; exact z1)] at st
    rw [if_neg z1]
    obtain ⟨O2, e2, f2, g2⟩ := c_blame (d + 3) (f := 2) hk.2.2.1 (by decide) (by omega)
    rw [show d + 4 = d + 3 + 1 from rfl, e2] at st
    exact ⟨_, O2, st, f2, g2⟩
end
