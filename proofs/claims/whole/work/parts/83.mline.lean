/-! THE MODEL READS A TEXT, 4: kinds, meanings. -/
section
/-- the draft -/
def MD (R : Nat → Nat → Int32) (T : Td_) : Prop :=
  (R 0 9 = nI (nT T) ∧ R 0 11 = nI (nM T) ∧ R 0 14 = nI (nS T) ∧ R 0 16 = nI (nK T)) ∧
  (∀ t, t < nT T → R 11 t = nI (mk_ T t)) ∧
  (∀ m, m < nM T → R 13 m = nI (hs_ T m) ∧ R 14 m = nI (hn_ T m)) ∧
  (∀ s, s < nS T → R 16 s = nI (tg_ T s)) ∧
  (∀ k, k < nK T → R 18 (5 * k) = nI (so_ T k) ∧ R 18 (5 * k + 1) = nI (se_ T k) ∧ R 18 (5 * k + 2) = oI (fe_ T k) ∧ R 18 (5 * k + 3) = bI (ul_ T k) ∧ R 18 (5 * k + 4) = nI (ch_ T k))
/-- what reading a line changes -/
def My (O O' : Mem_) : Prop := Ro 7 0 O O' ∧ ∀ p j, p ≠ 11 → p ≠ 13 → p ≠ 14 → p ≠ 16 → p ≠ 18 → (p = 0 → j ≠ 9 ∧ j ≠ 11 ∧ j ≠ 14 ∧ j ≠ 16 ∧ (j < 21 ∨ 26 < j)) → O' 7 0 p j = O 7 0 p j
theorem My.rfl {O : Mem_} : My O O := ⟨Ro.rfl, fun _ _ _ _ _ _ _ _ => Eq.refl _⟩
theorem My.trans {O O' O2 : Mem_} (h : My O O') (g : My O' O2) : My O O2 := ⟨h.1.trans g.1, fun p j a b c d e f => (g.2 p j a b c d e f).trans (h.2 p j a b c d e f)⟩
theorem My.mx {O O' : Mem_} (h : Mx O O') : My O O' := ⟨h.1, fun p j a b c d e f => h.2 p j (by omega)⟩
theorem My.up {p j : Nat} {v : Int32} {O : Mem_} (hp : p = 11 ∨ p = 13 ∨ p = 14 ∨ p = 16 ∨ p = 18 ∨ (p = 0 ∧ (j = 9 ∨ j = 11 ∨ j = 14 ∨ j = 16))) : My O (up O 7 0 p j v) := ⟨Ro.rfl.up, fun p' q a b c d e f => up_ne (by omega)⟩
theorem MTp.my {O O' : Mem_} {tp : Nat × (Nat → Nat)} (h : MTp (O 7 0) tp) (g : My O O') : MTp (O' 7 0) tp := ⟨(g.2 0 20 (by decide) (by decide) (by decide) (by decide) (by decide) (by decide)).trans h.1, fun j hj => (g.2 20 j (by decide) (by decide) (by decide) (by decide) (by decide) (by omega)).trans (h.2 j hj)⟩
theorem MD.mx {O O' : Mem_} {T : Td_} (h : MD (O 7 0) T) (g : Mx O O') : MD (O' 7 0) T := by
  obtain ⟨⟨h1, h2, h3, h4⟩, h5, h6, h7, h8⟩ := h
  refine ⟨⟨?_, ?_, ?_, ?_⟩, fun t ht => ?_, fun m hm => ?_, fun s hs => ?_, fun k hk => ?_⟩
  · rw [g.2 _ _ (by decide)]; exact h1
  · rw [g.2 _ _ (by decide)]; exact h2
  · rw [g.2 _ _ (by decide)]; exact h3
  · rw [g.2 _ _ (by decide)]; exact h4
  · rw [g.2 _ _ (by omega)]; exact h5 t ht
  · rw [g.2 _ _ (by omega), g.2 _ _ (by omega)]; exact h6 m hm
  · rw [g.2 _ _ (by omega)]; exact h7 s hs
  · rw [g.2 _ _ (by omega), g.2 _ _ (by omega), g.2 _ _ (by omega), g.2 _ _ (by omega), g.2 _ _ (by omega)]; exact h8 k hk
/-- what a line leaves -/
def RLm (b : Nat → Nat) (O : Mem_) (r : Pr_ (Td_ × Tk_)) : Prop := match r with
  | .ok p => MK b O p.2 ∧ MD (O 7 0) p.1
  | .error e => ME O e
section
variable {T : Td_} {b : Nat → Nat} {n : Nat}
theorem MK.of {O O' : Mem_} {k : Tk_} (h : MK b O k) (e : ∀ j, 21 ≤ j → j ≤ 25 → O' 7 0 0 j = O 7 0 0 j) : MK b O' k := ⟨(e _ (by decide) (by decide)).trans h.1, (e _ (by decide) (by decide)).trans h.2.1, (e _ (by decide) (by decide)).trans h.2.2.1, fun q => (e _ (by decide) (by decide)).trans (h.2.2.2.1 q), (e _ (by decide) (by decide)).trans h.2.2.2.2⟩
theorem MD.thing {O : Mem_} {v : Nat} (h : MD (O 7 0) T) : MD ((up (up O 7 0 11 (nT T) (nI v)) 7 0 0 9 (nI (nT T + 1))) 7 0) (aT T v) := by
  have e : nT (aT T v) = nT T + 1 := List.length_append
  obtain ⟨⟨h1, h2, h3, h4⟩, h5, h6, h7, h8⟩ := h
  refine ⟨⟨?_, ?_, ?_, ?_⟩, fun t ht => ?_, fun m hm => ?_, fun s hs => ?_, fun k hk => ?_⟩
  · rw [up_eq, e]
  · simp (disch := omega) only [up_ne]; exact h2
  · simp (disch := omega) only [up_ne]; exact h3
  · simp (disch := omega) only [up_ne]; exact h4
  · rw [up_ne (by omega)]
    by_cases z : t = nT T
    · rw [z, up_eq]
      show nI v = nI ((T.1 ++ [v]).getD T.1.length 0)
      rw [gd_last]
    · rw [up_ne (by omega), h5 t (by omega)]
      show nI (T.1.getD t 0) = nI ((T.1 ++ [v]).getD t 0)
      rw [gd_old (show t < T.1.length by show t < nT T; omega)]
  · simp (disch := omega) only [up_ne]; exact h6 m hm
  · simp (disch := omega) only [up_ne]; exact h7 s hs
  · simp (disch := omega) only [up_ne]; exact h8 k hk
theorem MD.sound {O : Mem_} {v : Nat} (h : MD (O 7 0) T) : MD ((up (up O 7 0 16 (nS T) (nI v)) 7 0 0 14 (nI (nS T + 1))) 7 0) (aS T v) := by
  have e : nS (aS T v) = nS T + 1 := List.length_append
  obtain ⟨⟨h1, h2, h3, h4⟩, h5, h6, h7, h8⟩ := h
  refine ⟨⟨?_, ?_, ?_, ?_⟩, fun t ht => ?_, fun m hm => ?_, fun s hs => ?_, fun k hk => ?_⟩
  · simp (disch := omega) only [up_ne]; exact h1
  · simp (disch := omega) only [up_ne]; exact h2
  · rw [up_eq, e]
  · simp (disch := omega) only [up_ne]; exact h4
  · simp (disch := omega) only [up_ne]; exact h5 t ht
  · simp (disch := omega) only [up_ne]; exact h6 m hm
  · rw [up_ne (by omega)]
    by_cases z : s = nS T
    · rw [z, up_eq]
      show nI v = nI ((T.2.2.1 ++ [v]).getD T.2.2.1.length 0)
      rw [gd_last]
    · rw [up_ne (by omega), h7 s (by omega)]
      show nI (T.2.2.1.getD s 0) = nI ((T.2.2.1 ++ [v]).getD s 0)
      rw [gd_old (show s < T.2.2.1.length by show s < nS T; omega)]
  · simp (disch := omega) only [up_ne]; exact h8 k hk
theorem MD.meaning {O : Mem_} {u v : Nat} (h : MD (O 7 0) T) : MD ((up (up (up O 7 0 13 (nM T) (nI u)) 7 0 14 (nM T) (nI v)) 7 0 0 11 (nI (nM T + 1))) 7 0) (aM T u v) := by
  have e : nM (aM T u v) = nM T + 1 := List.length_append
  have hgl : ∀ p : Nat × Nat, (T.2.1 ++ [p]).getD (nM T) (0, 0) = p := fun p => gd_last (l := T.2.1)
  have hgo : ∀ (p : Nat × Nat) m, m < nM T → (T.2.1 ++ [p]).getD m (0, 0) = T.2.1.getD m (0, 0) := fun p m hm => gd_old hm
  obtain ⟨⟨h1, h2, h3, h4⟩, h5, h6, h7, h8⟩ := h
  refine ⟨⟨?_, ?_, ?_, ?_⟩, fun t ht => ?_, fun m hm => ?_, fun s hs => ?_, fun k hk => ?_⟩
  · simp (disch := omega) only [up_ne]; exact h1
  · rw [up_eq, e]
  · simp (disch := omega) only [up_ne]; exact h3
  · simp (disch := omega) only [up_ne]; exact h4
  · simp (disch := omega) only [up_ne]; exact h5 t ht
  · by_cases y : m = nM T
    · rw [y]
      simp (disch := omega) only [up_ne, up_eq]
      unfold hs_ hn_
      show nI u = nI ((T.2.1 ++ [(u, v)]).getD (nM T) (0, 0)).1 ∧ nI v = nI ((T.2.1 ++ [(u, v)]).getD (nM T) (0, 0)).2
      rw [hgl]
      exact ⟨rfl, rfl⟩
    · have hm' : m < nM T := by omega
      simp (disch := omega) only [up_ne]
      unfold hs_ hn_
      show _ = nI ((T.2.1 ++ [(u, v)]).getD m (0, 0)).1 ∧ _ = nI ((T.2.1 ++ [(u, v)]).getD m (0, 0)).2
      rw [hgo _ m hm']
      exact h6 m hm'
  · simp (disch := omega) only [up_ne]; exact h7 s hs
  · simp (disch := omega) only [up_ne]; exact h8 k hk
theorem MD.kind {O : Mem_} {so : Nat} {κ : Kp_} (h : MD (O 7 0) T) : MD ((up (up (up (up (up (up O 7 0 18 (5 * nK T) (nI so)) 7 0 18 (5 * nK T + 1) (nI κ.1)) 7 0 18 (5 * nK T + 2) (oI κ.2.1)) 7 0 18 (5 * nK T + 3) (bI κ.2.2.1)) 7 0 18 (5 * nK T + 4) (nI κ.2.2.2)) 7 0 0 16 (nI (nK T + 1))) 7 0) (aK T so κ) := by
  have e : nK (aK T so κ) = nK T + 1 := List.length_append
  obtain ⟨⟨h1, h2, h3, h4⟩, h5, h6, h7, h8⟩ := h
  refine ⟨⟨?_, ?_, ?_, ?_⟩, fun t ht => ?_, fun m hm => ?_, fun s hs => ?_, fun k hk => ?_⟩
  · simp (disch := omega) only [up_ne]; exact h1
  · simp (disch := omega) only [up_ne]; exact h2
  · simp (disch := omega) only [up_ne]; exact h3
  · rw [up_eq, e]
  · simp (disch := omega) only [up_ne]; exact h5 t ht
  · simp (disch := omega) only [up_ne]; exact h6 m hm
  · simp (disch := omega) only [up_ne]; exact h7 s hs
  · unfold so_ se_ fe_ ul_ ch_
    by_cases z : k = nK T
    · rw [z, kd_new]
      simp (disch := omega) only [up_ne, up_eq, and_self]
    · rw [kd_old (by omega)]
      simp (disch := omega) only [up_ne]
      exact h8 k (by omega)
theorem oI_14 {o : Option Nat} (h : ∀ c, o = some c → c < 18) : inI (oI o) (nI 14) (nI 17) = (o.bind fun c => if 14 ≤ c then some (c - 14) else none).isSome := by
  cases o with
  | none => decide
  | some c =>
    have hc := h c rfl
    show inI (nI c) (nI 14) (nI 17) = (if 14 ≤ c then some (c - 14) else none).isSome
    rw [inI_n (by omega) (by decide) (by decide), decide_eq_true (show c ≤ 17 by omega), Bool.and_true]
    by_cases z : 14 ≤ c
    · rw [if_pos z, decide_eq_true z]; rfl
    · rw [if_neg z, decide_eq_false z]; rfl
theorem codeK_lt {k : Tk_} : ∀ c, codeK b k = some c → c < 18 := fun c h => by
  unfold codeK at h
  split at h
  · have := codeW_some h; omega
  · cases h
/-- what reading a kind leaves -/
def RKm (b : Nat → Nat) (O : Mem_) (T : Td_) (so : Nat) (r : Pr_ (Kp_ × Tk_)) : Prop := match r with
  | .ok p => MK b O p.2 ∧ MD (O 7 0) (aK T so p.1)
  | .error e => ME O e
theorem n_kinds (d : Nat) (hn : n ≤ 400) (hb : ∀ j, b j < 256) (hT : WT T) (hK : nK T < 6) {so : Nat} : ∀ (r : Nat) (κ : Kp_) (U : Nat) (k : Tk_) (O : Mem_), MTp (O 7 0) (n, b) → MK b O k → WTk b n k → MD (O 7 0) T → n - k.2.1 < r → U < 16 → κ.2.2.1 = U.testBit 2 → WKp T κ → ∃ O', ex (d + 5) 137 21 [some (vr 7 0 0), some (vi (nI so)), some (vi (nI (5 * nK T))), some (vi (nI κ.1)), some (vi (oI κ.2.1)), some (vi (nI κ.2.2.2)), some (vi (nI U))] [] O = some (nI 0, O') ∧ My O O' ∧ RKm b O' T so (kk b n T r κ U k)
  | 0, _, _, _, _, _, _, _, _, h, _, _, _ => absurd h (Nat.not_lt_zero _)
  | r + 1, κ, U, k, O, h, hk, wk, hD, hr, hU, hul, hκ => by
    have h8 := hT.1
    have w1 := wk.1
    have w2 := wk.2.1
    have w3 := wk.2.2.1
    -- a fault ends the loop
    have flt : ∀ (O2 : Mem_) e x1 x2 x3 x4 x5 x6, ME O2 e → ex (d + 5) 137 21 [some (vr 7 0 0), some (vi x1), some (vi x2), some (vi x3), some (vi x4), some (vi x5), some (vi x6)] [] O2 = some (nI 0, O2) := fun O2 e x1 x2 x3 x4 x5 x6 he => by
      rw [sX7_readKind_21, if_neg (n_flt he), sX7_readKind_163, if_neg (n_flt he)]
    have st := sX7_readKind_21 (d + 4) O (nI so) (nI (5 * nK T)) (nI κ.1) (oI κ.2.1) (nI κ.2.2.2) (nI U)
    unfold kk
    by_cases z1 : k.1 = 1
    · have w4 := wk.2.2.2.1 (by omega)
      have hcw : codeW (wrd b k) = codeK b k := by unfold codeK; rw [if_pos z1]
      rw [hk.2.2.2.2, if_pos rfl, hk.2.2.1, if_pos (by rw [z1]), n_nameNow d hn hb h hk wk, hcw] at st
      simp only [Option.bind_some] at st
      rw [m_in _ _ (oI (codeK b k)) (nI 14) (nI 17) (by decide) (by decide), oI_14 codeK_lt] at st
      simp only [Option.bind_some] at st
      rw [show ((codeK b k).bind fun c => if 14 ≤ c then some (c - 14) else none) = wcd b k from rfl] at st
      rw [if_pos z1]
      cases hw : wcd b k with
      | none =>
        rw [hw] at st
        obtain ⟨O2, e2, f2, m2, -⟩ := n_needs_f (d + 3) (O := O) (f := 2) hk.2.2.2.2 hk.2.1 (by decide) (by omega)
        rw [show bI (none : Option Nat).isSome = nI 0 from rfl, e2] at st
        simp only [Option.bind_some] at st
        rw [if_neg (n_flt m2)] at st
        exact ⟨O2, st.trans (flt O2 _ _ _ _ _ _ _ m2), My.mx f2, m2⟩
      | some c =>
        have hc := wcd_lt hw
        have hck : codeK b k = some (14 + c) := by
          unfold wcd at hw
          obtain ⟨c', h1, h2⟩ := Option.bind_eq_some_iff.mp hw
          split at h2
          · cases h2; rw [h1]; congr 1; omega
          · cases h2
        rw [hw, show bI (some c).isSome = nI 1 from rfl, n_needs_t] at st
        simp only [Option.bind_some] at st
        rw [hk.2.2.2.2, if_pos rfl, hck, show oI (some (14 + c)) = nI (14 + c) from rfl, pk_sub (by omega), Nat.add_sub_cancel_left, q_bitv _ _ (by omega) (by omega)] at st
        show ∃ O', _ ∧ _ ∧ RKm b O' T so (if U.testBit c = true then .error (4, k.2.1) else bnd (nxt b n k.2.2) fun k1 => bnd (wth b n c T κ k1) fun p => kk b n T r p.1 (U ||| 2 ^ c) p.2)
        have s85 := fun (O2 : Mem_) y0 => sX7_readKind_85 (d + 4) O2 (nI so) (nI (5 * nK T)) (nI κ.1) (oI κ.2.1) (nI κ.2.2.2) (nI U) (nI (14 + c)) y0
        have hp : (2:Nat) ^ c < 2 ^ 4 := Nat.pow_lt_pow_right (by decide) hc
        have hU' : U ||| 2 ^ c < 16 := Nat.or_lt_two_pow (n := 4) hU hp
        have q1 : (nI (14 + c) = nI 14) ↔ c = 0 := by rw [nI_eq (by omega) (by decide)]; omega
        have q2 : (nI (14 + c) = nI 15) ↔ c = 1 := by rw [nI_eq (by omega) (by decide)]; omega
        have q3 : (nI (14 + c) = nI 17) ↔ c = 3 := by rw [nI_eq (by omega) (by decide)]; omega
        -- behind a fault all that follows is idle
        have idle : ∀ (O2 : Mem_) e y0, ME O2 e → ex (d + 5) 137 85 [some (vr 7 0 0), some (vi (nI so)), some (vi (nI (5 * nK T))), some (vi (nI κ.1)), some (vi (oI κ.2.1)), some (vi (nI κ.2.2.2)), some (vi (nI U)), some (vi (nI (14 + c)))] [vi y0, vr 7 0 0] O2 = some (nI 0, O2) := fun O2 e y0 he => by
          refine (s85 O2 y0).trans ?_
          rw [n_needs_e (d + 3) he]
          simp only [Option.bind_some]
          rw [n_nextT_e (d + 3) he]
          simp only [Option.bind_some]
          obtain ⟨x, ex1⟩ := n_number_e (d + 2) (x1 := nI 0) (x2 := O2 7 0 0 9 - nI 1) he
          obtain ⟨y, ex2⟩ := n_number_e (d + 2) (x1 := nI 0) (x2 := nI 9) he
          rw [n_marks_e (d + 2) he, show d + 4 = d + 2 + 2 from rfl, ex1, ex2]
          simp only [Option.bind_some]
          split
          · exact flt O2 e _ _ _ _ _ _ he
          · split
            · exact flt O2 e _ _ _ _ _ _ he
            · split
              · exact flt O2 e _ _ _ _ _ _ he
              · exact flt O2 e _ _ _ _ _ _ he
        cases hub : U.testBit c with
        | true =>
          rw [hub, if_neg (show ¬ bI true = nI 0 by decide)] at st
          rw [if_pos rfl]
          obtain ⟨O2, e2, f2, m2, k2⟩ := n_needs_f (d + 3) (O := O) (f := 4) hk.2.2.2.2 hk.2.1 (by decide) (by omega)
          refine ⟨O2, st.trans ?_, My.mx f2, m2⟩
          have i1 := idle O2 _ (nI 1) m2
          have s1 := (s85 O (nI 0))
          rw [show d + 4 = d + 3 + 1 from rfl, e2] at s1
          simp only [Option.bind_some] at s1
          have s2 := (s85 O2 (nI 1)).symm.trans i1
          rw [n_needs_e (d + 3) m2] at s2
          simp only [Option.bind_some] at s2
          exact s1.trans s2
        | false =>
          rw [hub, if_pos bI_f] at st
          rw [if_neg (by decide)]
          obtain ⟨O1, e1, f1, r1⟩ := n_nextT (d + 2) hn hb h wk.2.1 hk.1 hk.2.2.2.2
          have h1 := h.mx f1
          have hD1 := hD.mx f1
          have s1 := s85 O (nI 1)
          rw [n_needs_t] at s1
          simp only [Option.bind_some] at s1
          rw [show d + 4 = d + 2 + 2 from rfl, e1] at s1
          simp only [Option.bind_some] at s1
          rw [pk_sub (show 14 ≤ 14 + c by omega), Nat.add_sub_cancel_left, q_shl c (by omega), q_or] at s1
          have st := st.trans s1
          have fgo : ∀ O2 k2 (κ2 : Kp_), My O O2 → MTp (O2 7 0) (n, b) → MK b O2 k2 → WTk b n k2 → k.2.2 ≤ k2.2.1 → WKp T κ2 → κ2.2.2.1 = (U ||| 2 ^ c).testBit 2 → MD (O2 7 0) T → ex (d + 5) 137 21 [some (vr 7 0 0), some (vi (nI so)), some (vi (nI (5 * nK T))), some (vi (nI κ.1)), some (vi (oI κ.2.1)), some (vi (nI κ.2.2.2)), some (vi (nI U))] [] O = ex (d + 5) 137 21 [some (vr 7 0 0), some (vi (nI so)), some (vi (nI (5 * nK T))), some (vi (nI κ2.1)), some (vi (oI κ2.2.1)), some (vi (nI κ2.2.2.2)), some (vi (nI (U ||| 2 ^ c)))] [] O2 → ∃ O', ex (d + 5) 137 21 [some (vr 7 0 0), some (vi (nI so)), some (vi (nI (5 * nK T))), some (vi (nI κ.1)), some (vi (oI κ.2.1)), some (vi (nI κ.2.2.2)), some (vi (nI U))] [] O = some (nI 0, O') ∧ My O O' ∧ RKm b O' T so (kk b n T r κ2 (U ||| 2 ^ c) k2) := fun O2 k2 κ2 hF ht hk2 wk2 hle hκ2 hul2 hD2 hs => by
            obtain ⟨O', e', f', r'⟩ := n_kinds d hn hb hT hK r κ2 (U ||| 2 ^ c) k2 O2 ht hk2 wk2 hD2 (by omega) hU' hul2 hκ2
            exact ⟨O', hs.trans e', hF.trans f', r'⟩
          have bit2 : c ≠ 2 → (U ||| 2 ^ c).testBit 2 = U.testBit 2 := fun q => by rw [Nat.testBit_or, Nat.testBit_two_pow_of_ne q, Bool.or_false]
          rcases (by omega : c = 0 ∨ c = 1 ∨ c = 2 ∨ c = 3) with rfl | rfl | rfl | rfl
          · -- sees
            obtain ⟨x, O2, e2, f2, r2⟩ := RN.cm (d + 1) hn hb (fb := 0) (by decide) h1 wk.2.1 r1
            rw [if_pos rfl, show d + 2 + 2 = d + 1 + 3 from rfl, e2] at st
            simp only [Option.bind_some] at st
            have F2 : My O O2 := My.mx (f1.trans f2)
            cases hq : nxt b n k.2.2 with
            | error e => rw [hq] at r2; exact ⟨O2, st.trans (flt O2 e _ _ _ _ _ _ r2), F2, r2⟩
            | ok k1 =>
              rw [hq] at r2
              have r2 : RW b O2 x (tkL b n 0 k1) := r2
              obtain ⟨wk1, le1⟩ := nxt_ok wk.2.1 hq
              show ∃ O', _ ∧ _ ∧ RKm b O' T so (bnd (wth b n 0 T κ k1) fun p => kk b n T r p.1 (U ||| 2 ^ 0) p.2)
              rw [show wth b n 0 T κ k1 = bnd (tkL b n 0 k1) fun p => .ok ((p.1, κ.2.1, κ.2.2.1, κ.2.2.2), p.2) from rfl]
              cases hq2 : tkL b n 0 k1 with
              | error e => rw [hq2] at r2; exact ⟨O2, st.trans (flt O2 e _ _ _ _ _ _ r2), F2, r2⟩
              | ok p =>
                rw [hq2] at r2
                obtain ⟨v1, -, wk2, le2⟩ := tkL_ok wk1 hq2
                have := wk1.1
                rw [r2.1] at st
                exact fgo O2 p.2 (p.1, κ.2) F2 (h1.mx f2) r2.2 wk2 (by omega) ⟨v1, hκ.2⟩ (by rw [bit2 (by decide)]; exact hul) (hD1.mx f2) st
          · -- fears
            obtain ⟨x, O2, e2, f2, r2⟩ := RN.cn (d + 1) hn hb (bd := nT T) (x2 := nI (nT T) - nI 1) (by omega) rfl h1 wk.2.1 r1
            rw [if_neg (by decide), if_pos rfl, hD1.1.1, show d + 2 + 2 = d + 1 + 3 from rfl, e2] at st
            simp only [Option.bind_some] at st
            have F2 : My O O2 := My.mx (f1.trans f2)
            cases hq : nxt b n k.2.2 with
            | error e => rw [hq] at r2; exact ⟨O2, st.trans (flt O2 e _ _ _ _ _ _ r2), F2, r2⟩
            | ok k1 =>
              rw [hq] at r2
              have r2 : RW b O2 x (tkN b n (nT T) k1) := r2
              obtain ⟨wk1, le1⟩ := nxt_ok wk.2.1 hq
              show ∃ O', _ ∧ _ ∧ RKm b O' T so (bnd (wth b n 1 T κ k1) fun p => kk b n T r p.1 (U ||| 2 ^ 1) p.2)
              rw [show wth b n 1 T κ k1 = bnd (tkN b n (nT T) k1) fun p => .ok ((κ.1, some p.1, κ.2.2.1, κ.2.2.2), p.2) from rfl]
              cases hq2 : tkN b n (nT T) k1 with
              | error e => rw [hq2] at r2; exact ⟨O2, st.trans (flt O2 e _ _ _ _ _ _ r2), F2, r2⟩
              | ok p =>
                rw [hq2] at r2
                obtain ⟨v1, wk2, le2⟩ := tkN_ok wk1 hq2
                have := wk1.1
                rw [r2.1] at st
                exact fgo O2 p.2 (κ.1, some p.1, κ.2.2) F2 (h1.mx f2) r2.2 wk2 (by omega) ⟨hκ.1, fun t ht => by cases ht; exact v1, hκ.2.2⟩ (by rw [bit2 (by decide)]; exact hul) (hD1.mx f2) st
          · -- unlike
            rw [if_neg (by decide), if_neg (by decide), if_neg (by decide)] at st
            have F2 : My O O1 := My.mx f1
            cases hq : nxt b n k.2.2 with
            | error e => rw [hq] at r1; exact ⟨O1, st.trans (flt O1 e _ _ _ _ _ _ r1), F2, r1⟩
            | ok k1 =>
              rw [hq] at r1
              obtain ⟨wk1, le1⟩ := nxt_ok wk.2.1 hq
              exact fgo O1 k1 (κ.1, κ.2.1, true, κ.2.2.2) F2 h1 r1 wk1 le1 hκ (by rw [Nat.testBit_or, Nat.testBit_two_pow_self, Bool.or_true]) hD1 st
          · -- chance
            obtain ⟨x, O2, e2, f2, r2⟩ := RN.cn (d + 1) hn hb (bd := 10) (x2 := nI 9) (by decide) (by decide) h1 wk.2.1 r1
            rw [if_neg (by decide), if_neg (by decide), if_pos rfl, show d + 2 + 2 = d + 1 + 3 from rfl, e2] at st
            simp only [Option.bind_some] at st
            have F2 : My O O2 := My.mx (f1.trans f2)
            cases hq : nxt b n k.2.2 with
            | error e => rw [hq] at r2; exact ⟨O2, st.trans (flt O2 e _ _ _ _ _ _ r2), F2, r2⟩
            | ok k1 =>
              rw [hq] at r2
              have r2 : RW b O2 x (tkN b n 10 k1) := r2
              obtain ⟨wk1, le1⟩ := nxt_ok wk.2.1 hq
              show ∃ O', _ ∧ _ ∧ RKm b O' T so (bnd (wth b n 3 T κ k1) fun p => kk b n T r p.1 (U ||| 2 ^ 3) p.2)
              rw [show wth b n 3 T κ k1 = bnd (tkN b n 10 k1) fun p => .ok ((κ.1, κ.2.1, κ.2.2.1, p.1), p.2) from rfl]
              cases hq2 : tkN b n 10 k1 with
              | error e => rw [hq2] at r2; exact ⟨O2, st.trans (flt O2 e _ _ _ _ _ _ r2), F2, r2⟩
              | ok p =>
                rw [hq2] at r2
                obtain ⟨v1, wk2, le2⟩ := tkN_ok wk1 hq2
                have := wk1.1
                rw [r2.1] at st
                exact fgo O2 p.2 (κ.1, κ.2.1, κ.2.2.1, p.1) F2 (h1.mx f2) r2.2 wk2 (by omega) ⟨hκ.1, hκ.2.1, by show p.1 ≤ 9; omega⟩ (by rw [bit2 (by decide)]; exact hul) (hD1.mx f2) st
    · rw [hk.2.2.2.2, if_pos rfl, hk.2.2.1, if_neg (show ¬ nI k.1 = nI 1 by rw [nI_eq (by omega) (by decide)]; exact z1)] at st
      rw [if_neg z1]
      have s3 := sX7_readKind_163 (d + 4) O (nI so) (nI (5 * nK T)) (nI κ.1) (oI κ.2.1) (nI κ.2.2.2) (nI U)
      have i0 : ib (nI (5 * nK T)) 30 = true := ib_n (by omega) (by decide)
      have i1 : ib (nI (5 * nK T + 1)) 30 = true := ib_n (by omega) (by decide)
      have i2 : ib (nI (5 * nK T + 2)) 30 = true := ib_n (by omega) (by decide)
      have i3 : ib (nI (5 * nK T + 3)) 30 = true := ib_n (by omega) (by decide)
      have i4 : ib (nI (5 * nK T + 4)) 30 = true := ib_n (by omega) (by decide)
      rw [hk.2.2.2.2, if_pos rfl] at s3
      simp only [nI_add, i0, i1, i2, i3, i4, if_true] at s3
      rw [nI_clamp (by omega), nI_clamp (by omega), nI_clamp (by omega), nI_clamp (by omega), nI_clamp (by omega), q_bitv U 2 (by omega) (by decide), ← hul] at s3
      simp (disch := omega) only [up_ne] at s3
      rw [hD.1.2.2.2, nI_add] at s3
      refine ⟨_, st.trans s3, (((((My.up (by omega)).trans (My.up (by omega))).trans (My.up (by omega))).trans (My.up (by omega))).trans (My.up (by omega))).trans (My.up (by omega)), MK.of hk (fun j a c => ?_), hD.kind⟩
      simp (disch := omega) only [up_ne]
end
end
