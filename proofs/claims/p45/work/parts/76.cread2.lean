/-! THE CLASS READS A TEXT, 5: a line; lines. -/
section
variable {T : Td_} {w : Nat} {b : Nat → Nat} {n : Nat}
theorem rdMeanC_ok {x : Nat} {k : Tk_} {p : Td_ × Tk_} (wk : WTk b n k) (h : rdMeanC b n T x k = .ok p) : WTk b n p.2 := by
  unfold rdMeanC at h
  split at h
  · obtain ⟨k1, h1, h⟩ := bnd_ok h
    obtain ⟨q, h2, h⟩ := bnd_ok h
    cases h
    exact (tkL_ok (nxt_ok wk.2.1 h1).1 h2).2.2.1
  · cases h; exact wk
/-- the class's way of reading a meaning comes to the same at the line's end -/
theorem rdMeanC_end {k : Tk_} : bnd (if nM T < 12 then bnd (nxt b n k.2.2) fun k1 => bnd (tkL b n 0 k1) fun p => rdMeanC b n T p.1 p.2 else .error (5, k.2.1)) (rdEnd b n) = bnd (rdMean b n T k) (rdEnd b n) := by
  unfold rdMean
  split
  · cases nxt b n k.2.2 with
    | error e => rfl
    | ok k1 =>
      show bnd (bnd (tkL b n 0 k1) _) _ = bnd (bnd (tkL b n 0 k1) _) _
      cases tkL b n 0 k1 with
      | error e => rfl
      | ok p =>
        show bnd (rdMeanC b n T p.1 p.2) _ = bnd (rdNot b n T p.1 p.2) _
        unfold rdMeanC rdNot
        by_cases z : p.2.1 = 1
        · rw [if_pos z]
          split
          · rfl
          · show rdEnd b n (aM T p.1 0, p.2) = .error (2, p.2.2.1)
            unfold rdEnd
            rw [if_neg (show ¬ p.2.1 = 3 by omega)]
        · rw [if_neg z, if_neg]
          unfold codeK
          rw [if_neg z]
          exact fun h => by cases h
  · rfl
theorem c_lineEnd (d : Nat) (hn : n ≤ 400) (hb : ∀ j, b j < 256) {O : Mem_} {r : Pr_ (Td_ × Tk_)} (h : CTp (O 3 0) (n, b)) (hr : RL O w r) (hw : ∀ p, r = .ok p → WTk b n p.2) : ∃ O', ex (d + 5) 27 76 [some (vr 3 0 0)] [] O = some (nI 0, O') ∧ Fw w O O' ∧ RL O' w (bnd r (rdEnd b n)) := by
  have s96 : ∀ O2 e, CE O2 e → ex (d + 5) 27 96 [some (vr 3 0 0)] [] O2 = some (nI 0, O2) := fun O2 e he => by
    rw [sX3_readLine_96, if_neg (c_flt he)]
  cases r with
  | error e =>
    refine ⟨O, (sX3_readLine_76 ..).trans ?_, Fw.rfl, hr⟩
    rw [if_neg (c_flt hr)]
    exact s96 O e hr
  | ok p =>
    obtain ⟨hk, hD⟩ := hr
    have wk := hw p rfl
    have w1 := wk.1
    have w2 := wk.2.1
    have w3 := wk.2.2.1
    have st := sX3_readLine_76 (d + 4) O
    rw [hk.2.2.2.2, if_pos rfl, hk.2.1] at st
    show ∃ O', _ ∧ _ ∧ RL O' w (rdEnd b n p)
    unfold rdEnd
    by_cases z : p.2.1 = 3
    · rw [if_pos (by rw [z])] at st
      rw [if_pos z]
      obtain ⟨O1, e1, f1, r1⟩ := c_nextToken d hn hb h wk.2.1 hk.1 hk.2.2.2.2
      refine ⟨O1, st.trans ((sX3_readLine_96 ..).trans ?_), Fw.fx f1, ?_⟩
      · rw [hk.2.2.2.2, if_pos rfl, e1]
        rfl
      · cases hq : nxt b n p.2.2.2 with
        | error e => rw [hq] at r1; exact r1
        | ok k1 => rw [hq] at r1; exact ⟨r1, hD.fx f1⟩
    · rw [if_neg (by rw [nI_eq (by omega) (by decide)]; exact z)] at st
      rw [if_neg z]
      obtain ⟨O2, e2, f2, g2⟩ := c_blame (d + 3) (f := 2) hk.2.2.1 (by decide) (by omega)
      rw [show d + 4 = d + 3 + 1 from rfl, e2] at st
      exact ⟨O2, st.trans (s96 O2 _ g2), Fw.fx f2, g2⟩
theorem c_readLine (d : Nat) (hn : n ≤ 400) (hb : ∀ j, b j < 256) {O : Mem_} {k : Tk_} (h : CTp (O 3 0) (n, b)) (hk : CK O k) (wk : WTk b n k) (hD : CD (O 4 w) T) (hT : WT T) : ∃ O', ex (d + 7) 27 0 [some (vr 3 0 0), some (vr 4 w 0)] [] O = some (nI 0, O') ∧ Fw w O O' ∧ RL O' w (rdLine b n T k) := by
  have w1 := wk.1
  have w2 := wk.2.1
  have nm := c_named (d + 4) hn hb h hk wk
  have st := sX3_readLine_0 (d + 6) O w
  rw [show d + 6 = d + 3 + 3 from rfl, c_sortNamed (d + 3) hn hb h hk wk] at st
  simp only [Option.bind_some] at st
  rw [show d + 3 + 3 = d + 4 + 2 from rfl, nm 0 (by decide)] at st
  simp only [Option.bind_some] at st
  -- a body, and the line's end
  have fin : ∀ (r : Pr_ (Td_ × Tk_)) O1, Fw w O O1 → RL O1 w r → (∀ p, r = .ok p → WTk b n p.2) → ex (d + 7) 27 0 [some (vr 3 0 0), some (vr 4 w 0)] [] O = ex (d + 7) 27 76 [some (vr 3 0 0)] [] O1 → bnd r (rdEnd b n) = rdLine b n T k → ∃ O', ex (d + 7) 27 0 [some (vr 3 0 0), some (vr 4 w 0)] [] O = some (nI 0, O') ∧ Fw w O O' ∧ RL O' w (rdLine b n T k) := fun r O1 hF hr hw hs hq => by
    obtain ⟨O2, e2, f2, r2⟩ := c_lineEnd (w := w) (d + 2) hn hb (h.fw hF) hr hw
    rw [hq] at r2
    exact ⟨O2, hs.trans e2, hF.trans f2, r2⟩
  by_cases z0 : codeK b k = some 10
  · have hl : lcd b k = some 10 := by unfold lcd; rw [z0]; rfl
    rw [decide_eq_true (show codeK b k = some ([10, 11, 12, 0, 1, 2, 3, 13, 14, 15, 16, 17].getD 0 0) from z0), if_neg (show ¬ bI true = nI 0 by decide)] at st
    obtain ⟨O1, e1, f1, r1⟩ := c_readThing d hn hb h hk wk hD hT
    rw [show d + 4 + 2 = d + 6 from rfl, e1] at st
    exact fin _ O1 f1 r1 (fun p hp => (rdBody_ok (c := 10) hT wk (by decide) hp).2.1) st (by unfold rdLine; rw [hl]; rfl)
  rw [decide_eq_false (show ¬ codeK b k = some ([10, 11, 12, 0, 1, 2, 3, 13, 14, 15, 16, 17].getD 0 0) from z0), if_pos bI_f, nm 1 (by decide)] at st
  simp only [Option.bind_some] at st
  by_cases z1 : codeK b k = some 11
  · have hl : lcd b k = some 11 := by unfold lcd; rw [z1]; rfl
    rw [decide_eq_true (show codeK b k = some ([10, 11, 12, 0, 1, 2, 3, 13, 14, 15, 16, 17].getD 1 0) from z1), if_neg (show ¬ bI true = nI 0 by decide)] at st
    obtain ⟨O1, e1, f1, r1⟩ := c_readMeaning d hn hb h hk wk hD hT
    rw [show d + 4 + 2 = d + 6 from rfl, e1] at st
    refine fin _ O1 f1 r1 (fun p hp => ?_) st (rdMeanC_end.trans (by unfold rdLine; rw [hl]; rfl))
    split at hp
    · obtain ⟨k1, h1, hp⟩ := bnd_ok hp
      obtain ⟨q, h2, hp⟩ := bnd_ok hp
      exact rdMeanC_ok (tkL_ok (nxt_ok wk.2.1 h1).1 h2).2.2.1 hp
    · cases hp
  rw [decide_eq_false (show ¬ codeK b k = some ([10, 11, 12, 0, 1, 2, 3, 13, 14, 15, 16, 17].getD 1 0) from z1), if_pos bI_f, nm 2 (by decide)] at st
  simp only [Option.bind_some] at st
  by_cases z2 : codeK b k = some 12
  · have hl : lcd b k = some 12 := by unfold lcd; rw [z2]; rfl
    rw [decide_eq_true (show codeK b k = some ([10, 11, 12, 0, 1, 2, 3, 13, 14, 15, 16, 17].getD 2 0) from z2), if_neg (show ¬ bI true = nI 0 by decide)] at st
    obtain ⟨O1, e1, f1, r1⟩ := c_readWord d hn hb h hk wk hD hT
    rw [show d + 4 + 2 = d + 6 from rfl, e1] at st
    exact fin _ O1 f1 r1 (fun p hp => (rdBody_ok (c := 12) hT wk (by decide) hp).2.1) st (by unfold rdLine; rw [hl]; rfl)
  rw [decide_eq_false (show ¬ codeK b k = some ([10, 11, 12, 0, 1, 2, 3, 13, 14, 15, 16, 17].getD 2 0) from z2), if_pos bI_f] at st
  cases hs : ((codeK b k).bind fun c => if c ≤ 3 then some c else none) with
  | none =>
    rw [hs, if_pos (show oI none = oI none from rfl)] at st
    have hl : lcd b k = none := by
      unfold lcd
      cases hq : codeK b k with
      | none => rfl
      | some c =>
        rw [hq] at hs z0 z1 z2
        have hs : (if c ≤ 3 then some c else none) = none := hs
        show (if c ≤ 12 then some c else none) = none
        by_cases y : c ≤ 3
        · rw [if_pos y] at hs; cases hs
        · by_cases x : c ≤ 12
          · exfalso
            have : codeW (wrd b k) = some c := by
              unfold codeK at hq
              split at hq
              · exact hq
              · cases hq
            have := codeW_some this
            rcases (by omega : c = 10 ∨ c = 11 ∨ c = 12) with rfl | rfl | rfl
            · exact z0 rfl
            · exact z1 rfl
            · exact z2 rfl
          · rw [if_neg x]
    obtain ⟨O2, e2, f2, g2⟩ := c_blame (d + 5) (f := 2) hk.2.2.1 (by decide) (by omega)
    rw [show d + 4 + 2 = d + 5 + 1 from rfl, e2] at st
    refine fin (.error (2, k.2.1)) O2 (Fw.fx f2) g2 (fun p hp => by cases hp) st ?_
    unfold rdLine
    rw [hl]
    rfl
  | some c =>
    obtain ⟨c', h1, h2⟩ := Option.bind_eq_some_iff.mp hs
    have hc : c' ≤ 3 ∧ c' = c := by
      split at h2
      · cases h2; exact ⟨by assumption, rfl⟩
      · cases h2
    obtain ⟨hc3, rfl⟩ := hc
    have hl : lcd b k = some c' := by
      unfold lcd
      rw [h1]
      show (if c' ≤ 12 then some c' else none) = some c'
      rw [if_pos (by omega)]
    rw [hs, if_neg (show ¬ oI (some c') = oI none from oI_sn (by omega))] at st
    obtain ⟨O1, e1, f1, r1⟩ := c_readKind d hn hb (so := c') h hk wk hD hT
    rw [show d + 4 + 2 = d + 6 from rfl, show oI (some c') = nI c' from rfl, e1] at st
    have hbd : rdBody b n c' T k = rdKind b n T c' k := by
      unfold rdBody
      rw [if_neg (by omega), if_neg (by omega), if_neg (by omega)]
    refine fin _ O1 f1 r1 (fun p hp => (rdBody_ok (c := c') hT wk (by omega) (hbd.trans hp)).2.1) st ?_
    unfold rdLine
    rw [hl]
    show bnd (rdKind b n T c' k) _ = bnd (rdBody b n c' T k) _
    rw [hbd]
/-- what reading all lines leaves -/
def RA (O : Mem_) (w : Nat) (r : Pr_ (Td_ × Nat)) : Prop := match r with
  | .ok p => O 3 0 0 2 = nI 0 ∧ O 3 0 0 4 = nI p.2 ∧ CD (O 4 w) p.1 ∧ p.2 ≤ 400
  | .error e => CE O e
/-- what reading all changes -/
def Ft (w : Nat) (O O' : Mem_) : Prop := (∀ c q, (c ≠ 3 ∨ q ≠ 0) → (c ≠ 4 ∨ q ≠ w) → O' c q = O c q) ∧ ∀ p j, p ≠ 0 ∨ j < 2 ∨ 8 < j → O' 3 0 p j = O 3 0 p j
theorem Ft.rfl {w : Nat} {O : Mem_} : Ft w O O := ⟨fun _ _ _ _ => Eq.refl _, fun _ _ _ => Eq.refl _⟩
theorem Ft.trans {w : Nat} {O O' O2 : Mem_} (h : Ft w O O') (g : Ft w O' O2) : Ft w O O2 := ⟨fun c q a b => (g.1 c q a b).trans (h.1 c q a b), fun p j a => (g.2 p j a).trans (h.2 p j a)⟩
theorem Ft.fw {w : Nat} {O O' : Mem_} (h : Fw w O O') : Ft w O O' := ⟨h.1, fun p j a => h.2 p j (by omega)⟩
theorem Ft.up {w j : Nat} {v : Int32} {O : Mem_} (hj : 2 ≤ j ∧ j ≤ 8) : Ft w O (up O 3 0 0 j v) := ⟨fun c q a _ => up_row a, fun p q z => up_ne (by omega)⟩
theorem CTp.ft {w : Nat} {O O' : Mem_} {tp : Nat × (Nat → Nat)} (h : CTp (O 3 0) tp) (g : Ft w O O') : CTp (O' 3 0) tp := ⟨(g.2 0 1 (by decide)).trans h.1, fun j hj => (g.2 1 j (by omega)).trans (h.2 j hj)⟩
theorem c_readAll (d : Nat) (hn : n ≤ 400) (hb : ∀ j, b j < 256) : ∀ (r : Nat) (T : Td_) (k : Tk_) (c : Nat) (O : Mem_), CTp (O 3 0) (n, b) → CK O k → WTk b n k → CD (O 4 w) T → WT T → n - k.2.1 < r → c ≤ k.2.1 → O 3 0 0 4 = nI c → ∃ O', ex (d + 8) 21 30 [some (vr 3 0 0), some (vr 4 w 0), some (vi (nI c))] [] O = ex (d + 8) 21 72 [some (vr 3 0 0), some (vr 4 w 0)] [] O' ∧ Ft w O O' ∧ RA O' w (rdAll b n r T k c)
  | 0, _, _, _, _, _, _, _, _, _, h, _, _ => absurd h (Nat.not_lt_zero _)
  | r + 1, T, k, c, O, h, hk, wk, hD, hT, hr, hc, h4 => by
    have w1 := wk.1
    have w2 := wk.2.1
    have w3 := wk.2.2.1
    have st := sX3_readInto_30 (d + 7) O w (nI c)
    unfold rdAll
    by_cases z : k.1 = 0
    · rw [hk.2.2.2.2, if_pos rfl, hk.2.1, if_pos (show nI k.1 = nI 0 by rw [z]), ite_self] at st
      rw [if_pos z]
      exact ⟨O, st, Ft.rfl, hk.2.2.2.2, h4, hD, by omega⟩
    · have w4 := wk.2.2.2.1 z
      rw [if_pos (nI_lt (show c < 400 by omega) (by decide)), hk.2.2.2.2, if_pos rfl, hk.2.1, if_neg (by rw [nI_eq (by omega) (by decide)]; exact z)] at st
      rw [if_neg z]
      obtain ⟨O1, e1, f1, r1⟩ := c_readLine d hn hb h hk wk hD hT
      have h41 : O1 3 0 0 4 = nI c := (f1.2 0 4 (by decide)).trans h4
      rw [e1] at st
      simp only [Option.bind_some] at st
      rw [h41, nI_add] at st
      have g1 : Ft w O (up O1 3 0 0 4 (nI (c + 1))) := (Ft.fw f1).trans (Ft.up (by decide))
      have ck : ∀ k, CK O1 k → CK (up O1 3 0 0 4 (nI (c + 1))) k := fun k q => ⟨(up_ne (by decide)).trans q.1, (up_ne (by decide)).trans q.2.1, (up_ne (by decide)).trans q.2.2.1, (up_ne (by decide)).trans q.2.2.2.1, (up_ne (by decide)).trans q.2.2.2.2⟩
      cases hq : rdLine b n T k with
      | error e =>
        rw [hq] at r1
        have r1 : CE O1 e := r1
        have ce : CE (up O1 3 0 0 4 (nI (c + 1))) e := ⟨(up_ne (by decide)).trans r1.1, (up_ne (by decide)).trans r1.2.1, r1.2.2⟩
        refine ⟨_, st.trans ((sX3_readInto_30 ..).trans ?_), g1, ce⟩
        rw [if_neg (c_flt ce), ite_self]
      | ok p =>
        rw [hq] at r1
        obtain ⟨a1, a2, a3⟩ := rdLine_ok hT wk hq
        obtain ⟨O2, e2, g2, r2⟩ := c_readAll d hn hb r p.1 p.2 (c + 1) (up O1 3 0 0 4 (nI (c + 1))) (h.ft g1) (ck _ r1.1) a2 (by rw [up_row (Or.inl (by decide))]; exact r1.2) a1 (by omega) (by omega) (up_eq ..)
        exact ⟨O2, st.trans e2, g1.trans g2, r2⟩
theorem CD_0 {R : Nat → Nat → Int32} (h : R 0 0 = nI 0 ∧ R 0 1 = nI 0 ∧ R 0 2 = nI 0 ∧ R 0 3 = nI 0) : CD R td0 := ⟨h, fun t ht => absurd ht (Nat.not_lt_zero t), fun t ht => absurd ht (Nat.not_lt_zero t), fun t ht => absurd ht (Nat.not_lt_zero t), fun t ht => absurd ht (Nat.not_lt_zero t)⟩
theorem c_readText (d : Nat) (hn : n ≤ 400) (hb : ∀ j, b j < 256) {O : Mem_} (h : CTp (O 3 0) (n, b)) : ∃ O', ex (d + 8) 21 0 [some (vr 3 0 0), some (vr 4 w 0)] [] O = ex (d + 8) 21 72 [some (vr 3 0 0), some (vr 4 w 0)] [] O' ∧ Ft w O O' ∧ RA O' w (rdText b n) := by
  have st := sX3_readInto_0 (d + 7) O w
  rw [sX4_empty_0] at st
  simp only [Option.bind_some] at st
  obtain ⟨O1, q1⟩ : ∃ O1, O1 = up (up (up (up O 4 w 0 0 (nI 0)) 4 w 0 1 (nI 0)) 4 w 0 2 (nI 0)) 4 w 0 3 (nI 0) := ⟨_, rfl⟩
  rw [← q1] at st
  have d1 : CD (O1 4 w) td0 := by
    rw [q1]
    exact CD_0 ⟨by simp (disch := omega) only [up_ne, up_eq], by simp (disch := omega) only [up_ne, up_eq], by simp (disch := omega) only [up_ne, up_eq], by simp (disch := omega) only [up_ne, up_eq]⟩
  have f1 : Fw w O O1 := by rw [q1]; exact (((Fw.up4.trans Fw.up4).trans Fw.up4).trans Fw.up4)
  obtain ⟨O2, q2⟩ : ∃ O2, O2 = up (up (up (up O1 3 0 0 2 (nI 0)) 3 0 0 3 (nI 0)) 3 0 0 4 (nI 0)) 3 0 0 5 (nI 0) := ⟨_, rfl⟩
  rw [← q2] at st
  have f2 : Ft w O O2 := by
    rw [q2]
    exact ((((Ft.fw f1).trans (Ft.up (by decide))).trans (Ft.up (by decide))).trans (Ft.up (by decide))).trans (Ft.up (by decide))
  have d2 : CD (O2 4 w) td0 := by
    rw [q2]
    simp only [up_row (Or.inl (show (4:Nat) ≠ 3 by decide))]
    exact d1
  have h2 := h.ft f2
  obtain ⟨O3, e3, f3, r3⟩ := c_nextToken (d + 3) hn hb h2 (Nat.zero_le _) (by rw [q2, up_eq]) (by rw [q2, up_ne (by decide), up_ne (by decide), up_ne (by decide), up_eq])
  have h34 : O3 3 0 0 4 = nI 0 := by rw [f3.2 0 4 (by decide), q2, up_ne (by decide), up_eq]
  rw [show d + 7 = d + 3 + 4 from rfl, e3] at st
  simp only [Option.bind_some] at st
  have F3 : Ft w O O3 := f2.trans (Ft.fw (Fw.fx f3))
  unfold rdText
  cases hq : nxt b n 0 with
  | error e =>
    rw [hq] at r3
    refine ⟨O3, st.trans ((sX3_readInto_30 ..).trans ?_), F3, r3⟩
    rw [if_neg (c_flt r3), ite_self]
  | ok k =>
    rw [hq] at r3
    obtain ⟨wk, -⟩ := nxt_ok (Nat.zero_le _) hq
    obtain ⟨O4, e4, g4, r4⟩ := c_readAll (w := w) d hn hb (n + 1) td0 k 0 O3 (h2.fx f3) r3 wk (d2.fx f3) WT_td0 (by omega) (Nat.zero_le _) h34
    exact ⟨O4, st.trans e4, F3.trans g4, r4⟩
end
