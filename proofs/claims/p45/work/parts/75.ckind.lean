/-! THE CLASS READS A TEXT, 4: kinds. -/
section
variable {T : Td_} {w : Nat}
/-- a draft with a kind under way, part by part -/
def CDk (R : Nat → Nat → Int32) (T : Td_) (so : Nat) (κ : Kp_) : Prop :=
  ((R 0 0 = nI (nT T) ∧ R 0 1 = nI (nM T) ∧ R 0 2 = nI (nS T) ∧ R 0 3 = nI (nK T + 1)) ∧
  (∀ t, t < nT T → R 5 t = nI (mk_ T t)) ∧
  (∀ m, m < nM T → R 7 m = nI (hs_ T m) ∧ R 8 m = nI (hn_ T m) ∧ R 9 m = nI (asks T m)) ∧
  (∀ s, s < nS T → R 13 s = nI (tg_ T s)) ∧
  (∀ k, k < nK T → R 14 k = nI (so_ T k) ∧ R 15 k = nI (se_ T k) ∧ R 16 k = oI (fe_ T k) ∧ R 17 k = bI (ul_ T k) ∧ R 18 k = nI (ch_ T k))) ∧
  R 14 (nK T) = nI so ∧ R 15 (nK T) = nI κ.1 ∧ R 16 (nK T) = oI κ.2.1 ∧ R 17 (nK T) = bI κ.2.2.1 ∧ R 18 (nK T) = nI κ.2.2.2
theorem kd_old {so : Nat} {κ : Kp_} {k : Nat} (hk : k < nK T) : kd_ (aK T so κ) k = kd_ T k := gd_old hk
theorem kd_new {so : Nat} {κ : Kp_} : kd_ (aK T so κ) (nK T) = (so, κ) := gd_last (l := T.2.2.2)
theorem CDk.cd {R : Nat → Nat → Int32} {so : Nat} {κ : Kp_} (h : CDk R T so κ) : CD R (aK T so κ) := by
  obtain ⟨⟨⟨h1, h2, h3, h4⟩, h5, h6, h7, h8⟩, g1, g2, g3, g4, g5⟩ := h
  have e : nK (aK T so κ) = nK T + 1 := List.length_append
  refine ⟨⟨h1, h2, h3, by rw [e]; exact h4⟩, h5, h6, h7, fun k hk => ?_⟩
  unfold so_ se_ fe_ ul_ ch_
  by_cases z : k = nK T
  · rw [z, kd_new]
    exact ⟨g1, g2, g3, g4, g5⟩
  · rw [kd_old (by omega)]
    exact h8 k (by omega)
theorem c_addKind (d : Nat) {O : Mem_} {so : Nat} (h : CD (O 4 w) T) (hn : nK T < 6) : ∃ O', ex (d + 1) 40 0 [some (vr 4 w 0), some (vi (nI so))] [] O = some (nI 0, O') ∧ Ro 4 w O O' ∧ CDk (O' 4 w) T so (255, none, false, 1) := by
  have hi : ib (nI (nK T)) 6 = true := ib_n hn (by decide)
  have hc : Int32.toNatClampNeg (nI (nK T)) = nK T := nI_clamp (by omega)
  obtain ⟨⟨h1, h2, h3, h4⟩, h5, h6, h7, h8⟩ := h
  refine ⟨up (up (up (up (up (up O 4 w 14 (nK T) (nI so)) 4 w 15 (nK T) (nI 255)) 4 w 16 (nK T) (oI none)) 4 w 17 (nK T) (nI 0)) 4 w 18 (nK T) (nI 1)) 4 w 0 3 (nI (nK T + 1)), ?_, Ro.rfl.up.up.up.up.up.up, ?_⟩
  · rw [sX4_addKind_0, h4, if_pos (nI_lt hn (by decide))]
    have g1 : (up O 4 w 14 (nK T) (nI so)) 4 w 0 3 = nI (nK T) := (up_ne (by omega)).trans h4
    have g2 : (up (up O 4 w 14 (nK T) (nI so)) 4 w 15 (nK T) (nI 255)) 4 w 0 3 = nI (nK T) := (up_ne (by omega)).trans g1
    have g3 : (up (up (up O 4 w 14 (nK T) (nI so)) 4 w 15 (nK T) (nI 255)) 4 w 16 (nK T) (oI none)) 4 w 0 3 = nI (nK T) := (up_ne (by omega)).trans g2
    have g4 : (up (up (up (up O 4 w 14 (nK T) (nI so)) 4 w 15 (nK T) (nI 255)) 4 w 16 (nK T) (oI none)) 4 w 17 (nK T) (nI 0)) 4 w 0 3 = nI (nK T) := (up_ne (by omega)).trans g3
    have g5 : (up (up (up (up (up O 4 w 14 (nK T) (nI so)) 4 w 15 (nK T) (nI 255)) 4 w 16 (nK T) (oI none)) 4 w 17 (nK T) (nI 0)) 4 w 18 (nK T) (nI 1)) 4 w 0 3 = nI (nK T) := (up_ne (by omega)).trans g4
    simp only [hi, hc, if_true, g1, g2, g3, g4, g5, nI_add]
  · refine ⟨⟨⟨?_, ?_, ?_, ?_⟩, fun t ht => ?_, fun m hm => ?_, fun s hs => ?_, fun k hk => ?_⟩, ?_, ?_, ?_, ?_, ?_⟩
    · simp (disch := omega) only [up_ne]; exact h1
    · simp (disch := omega) only [up_ne]; exact h2
    · simp (disch := omega) only [up_ne]; exact h3
    · rw [up_eq]
    · simp (disch := omega) only [up_ne]; exact h5 t ht
    · simp (disch := omega) only [up_ne]; exact h6 m hm
    · simp (disch := omega) only [up_ne]; exact h7 s hs
    · simp (disch := omega) only [up_ne]; exact h8 k hk
    · simp (disch := omega) only [up_ne, up_eq]
    · simp (disch := omega) only [up_ne, up_eq]
    · simp (disch := omega) only [up_ne, up_eq]
    · simp (disch := omega) only [up_ne, up_eq]; rfl
    · simp (disch := omega) only [up_ne, up_eq]
theorem CDk.fx {O O' : Mem_} {so : Nat} {κ : Kp_} (h : CDk (O 4 w) T so κ) (g : Fx O O') : CDk (O' 4 w) T so κ := by rw [g.1 4 w (Or.inl (by decide))]; exact h
theorem CDk.set {O : Mem_} {so p : Nat} {κ κ' : Kp_} {x : Int32} (h : CDk (O 4 w) T so κ) (hp : (p = 15 ∧ x = nI κ'.1 ∧ κ'.2 = κ.2) ∨ (p = 16 ∧ x = oI κ'.2.1 ∧ κ'.1 = κ.1 ∧ κ'.2.2 = κ.2.2) ∨ (p = 17 ∧ x = bI κ'.2.2.1 ∧ κ'.1 = κ.1 ∧ κ'.2.1 = κ.2.1 ∧ κ'.2.2.2 = κ.2.2.2) ∨ (p = 18 ∧ x = nI κ'.2.2.2 ∧ κ'.1 = κ.1 ∧ κ'.2.1 = κ.2.1 ∧ κ'.2.2.1 = κ.2.2.1)) : CDk ((up O 4 w p (nK T) x) 4 w) T so κ' := by
  obtain ⟨⟨⟨h1, h2, h3, h4⟩, h5, h6, h7, h8⟩, g1, g2, g3, g4, g5⟩ := h
  refine ⟨⟨⟨?_, ?_, ?_, ?_⟩, fun t ht => ?_, fun m hm => ?_, fun s hs => ?_, fun k hk => ?_⟩, ?_, ?_⟩
  · rw [up_ne (by omega)]; exact h1
  · rw [up_ne (by omega)]; exact h2
  · rw [up_ne (by omega)]; exact h3
  · rw [up_ne (by omega)]; exact h4
  · rw [up_ne (by omega)]; exact h5 t ht
  · rw [up_ne (by omega), up_ne (by omega), up_ne (by omega)]; exact h6 m hm
  · rw [up_ne (by omega)]; exact h7 s hs
  · rw [up_ne (by omega), up_ne (by omega), up_ne (by omega), up_ne (by omega), up_ne (by omega)]; exact h8 k hk
  · rw [up_ne (by omega)]; exact g1
  · rcases hp with ⟨rfl, hx, q1⟩ | ⟨rfl, hx, q1, q2⟩ | ⟨rfl, hx, q1, q2, q3⟩ | ⟨rfl, hx, q1, q2, q3⟩
    · refine ⟨by rw [up_eq]; exact hx, ?_, ?_, ?_⟩
      · rw [up_ne (by omega), q1]; exact g3
      · rw [up_ne (by omega), q1]; exact g4
      · rw [up_ne (by omega), q1]; exact g5
    · refine ⟨?_, by rw [up_eq]; exact hx, ?_, ?_⟩
      · rw [up_ne (by omega), q1]; exact g2
      · rw [up_ne (by omega), q2]; exact g4
      · rw [up_ne (by omega), q2]; exact g5
    · refine ⟨?_, ?_, by rw [up_eq]; exact hx, ?_⟩
      · rw [up_ne (by omega), q1]; exact g2
      · rw [up_ne (by omega), q2]; exact g3
      · rw [up_ne (by omega), q3]; exact g5
    · refine ⟨?_, ?_, ?_, by rw [up_eq]; exact hx⟩
      · rw [up_ne (by omega), q1]; exact g2
      · rw [up_ne (by omega), q2]; exact g3
      · rw [up_ne (by omega), q3]; exact g4
variable {b : Nat → Nat} {n : Nat}
theorem wcd_lt {k : Tk_} {c : Nat} (h : wcd b k = some c) : c < 4 := by
  unfold wcd at h
  obtain ⟨c', h1, h2⟩ := Option.bind_eq_some_iff.mp h
  split at h2
  · cases h2
    unfold codeK at h1
    split at h1
    · have := codeW_some h1
      omega
    · cases h1
  · cases h2
theorem two_bit : ∀ U, U < 16 → ∀ c, c < 4 → (2 * U).testBit (c + 1) = U.testBit c := by decide
theorem two_or : ∀ U, U < 16 → ∀ c, c < 4 → 2 * U ||| 2 ^ (c + 1) = 2 * (U ||| 2 ^ c) := by decide
/-- what reading a kind leaves -/
def RK (O : Mem_) (w : Nat) (T : Td_) (so : Nat) (r : Pr_ (Kp_ × Tk_)) : Prop := match r with
  | .ok p => CK O p.2 ∧ CDk (O 4 w) T so p.1
  | .error e => CE O e
theorem Fw.up4 {p j : Nat} {v : Int32} {O : Mem_} : Fw w O (up O 4 w p j v) := Fw.ro (Ro.rfl.up)
theorem c_kinds (d : Nat) (hn : n ≤ 400) (hb : ∀ j, b j < 256) (hT : WT T) (hK : nK T < 6) {so : Nat} : ∀ (r : Nat) (κ : Kp_) (U : Nat) (k : Tk_) (i : Nat) (O : Mem_), CTp (O 3 0) (n, b) → CK O k → WTk b n k → CDk (O 4 w) T so κ → n - k.2.1 < r → i ≤ k.2.1 → U < 16 → WKp T κ → ∃ O', ex (d + 6) 32 35 [some (vr 3 0 0), some (vr 4 w 0), none, some (vi (nI (nK T))), some (vi (nI (2 * U))), some (vi (nI i))] [] O = some (nI 0, O') ∧ Fw w O O' ∧ RK O' w T so (kk b n T r κ U k)
  | 0, _, _, _, _, _, _, _, _, _, h, _, _, _ => absurd h (Nat.not_lt_zero _)
  | r + 1, κ, U, k, i, O, h, hk, wk, hD, hr, hi, hU, hκ => by
    have h8 := hT.1
    have w1 := wk.1
    have w2 := wk.2.1
    have w3 := wk.2.2.1
    have st := sX3_readKind_35 (d + 5) O w (nI (nK T)) (nI (2 * U)) (nI i)
    unfold kk
    by_cases z1 : k.1 = 1
    · have w4 := wk.2.2.2.1 (by omega)
      rw [if_pos (nI_lt (show i < 400 by omega) (by decide)), hk.2.2.2.2, if_pos rfl, hk.2.1, if_pos (by rw [z1]), show d + 5 = d + 2 + 3 from rfl, c_withNamed (d + 2) hn hb h hk wk] at st
      simp only [Option.bind_some] at st
      rw [if_pos z1]
      cases hw : wcd b k with
      | none =>
        rw [hw] at st
        rw [show oI (Option.map (· + 1) (none : Option Nat)) = oI none from rfl, if_pos rfl] at st
        obtain ⟨O2, e2, f2, g2⟩ := c_blame (d + 4) (f := 2) hk.2.2.1 (by decide) (by omega)
        refine ⟨O2, st.trans ((sX3_readKind_81 ..).trans ?_), Fw.fx f2, g2⟩
        rw [if_pos rfl]
        rw [show d + 2 + 3 = d + 4 + 1 from rfl, e2]
        rfl
      | some c =>
        have hc := wcd_lt hw
        rw [hw] at st
        rw [show oI (Option.map (· + 1) (some c)) = nI (c + 1) from rfl, if_neg (oI_none (by omega)), m_isIn _ _ (by omega) (by omega), two_bit U hU c hc] at st
        simp only [Option.bind_some] at st
        show ∃ O', _ ∧ _ ∧ RK O' w T so (if U.testBit c = true then .error (4, k.2.1) else bnd (nxt b n k.2.2) fun k1 => bnd (wth b n c T κ k1) fun p => kk b n T r p.1 (U ||| 2 ^ c) p.2)
        cases hub : U.testBit c with
        | true =>
          rw [hub, if_neg (show ¬ bI true = nI 0 by decide)] at st
          rw [if_pos rfl]
          obtain ⟨O2, e2, f2, g2⟩ := c_blame (d + 4) (f := 4) hk.2.2.1 (by decide) (by omega)
          refine ⟨O2, st.trans ((sX3_readKind_81 ..).trans ?_), Fw.fx f2, g2⟩
          rw [if_neg (oI_none (by omega))]
          rw [show d + 2 + 3 = d + 4 + 1 from rfl, e2]
          rfl
        | false =>
          rw [hub, if_pos bI_f] at st
          rw [if_neg (by decide)]
          obtain ⟨O1, e1, f1, r1⟩ := c_nextToken (d + 1) hn hb h wk.2.1 hk.1 hk.2.2.2.2
          have h1 := h.fx f1
          have hD1 := hD.fx f1
          have hp : (2:Nat) ^ c < 2 ^ 4 := Nat.pow_lt_pow_right (by decide) hc
          have hU' : U ||| 2 ^ c < 16 := Nat.or_lt_two_pow (n := 4) hU hp
          rw [show d + 2 + 3 = d + 1 + 4 from rfl, e1] at st
          simp only [Option.bind_some] at st
          rw [q_shl (c + 1) (by omega), q_or, two_or U hU c hc, nI_add, nI_clamp (show nK T < 2 ^ 31 by omega)] at st
          simp only [ib_n hK (show 6 < 2 ^ 31 by decide), if_true] at st
          -- a fault ends the loop
          have ferr : ∀ O2 e p x, Fw w O O2 → CE O2 e → ex (d + 6) 32 35 [some (vr 3 0 0), some (vr 4 w 0), none, some (vi (nI (nK T))), some (vi (nI (2 * U))), some (vi (nI i))] [] O = ex (d + 6) 32 35 [some (vr 3 0 0), some (vr 4 w 0), none, some (vi (nI (nK T))), some (vi (nI (2 * (U ||| 2 ^ c)))), some (vi (nI (i + 1)))] [] (up O2 4 w p (nK T) x) → ∃ O', ex (d + 6) 32 35 [some (vr 3 0 0), some (vr 4 w 0), none, some (vi (nI (nK T))), some (vi (nI (2 * U))), some (vi (nI i))] [] O = some (nI 0, O') ∧ Fw w O O' ∧ CE O' e := fun O2 e p x hF he hs => by
            have he2 : CE (up O2 4 w p (nK T) x) e := CE.ro he (funext fun q => up_row (Or.inl (by decide)))
            refine ⟨_, hs.trans ((sX3_readKind_35 ..).trans ?_), hF.trans Fw.up4, he2⟩
            rw [if_neg (c_flt he2), ite_self]
          -- the loop goes on
          have fgo : ∀ O2 k2 κ2 p x, Fw w O O2 → CTp (O2 3 0) (n, b) → CK O2 k2 → WTk b n k2 → k.2.2 ≤ k2.2.1 → WKp T κ2 → CDk ((up O2 4 w p (nK T) x) 4 w) T so κ2 → ex (d + 6) 32 35 [some (vr 3 0 0), some (vr 4 w 0), none, some (vi (nI (nK T))), some (vi (nI (2 * U))), some (vi (nI i))] [] O = ex (d + 6) 32 35 [some (vr 3 0 0), some (vr 4 w 0), none, some (vi (nI (nK T))), some (vi (nI (2 * (U ||| 2 ^ c)))), some (vi (nI (i + 1)))] [] (up O2 4 w p (nK T) x) → ∃ O', ex (d + 6) 32 35 [some (vr 3 0 0), some (vr 4 w 0), none, some (vi (nI (nK T))), some (vi (nI (2 * U))), some (vi (nI i))] [] O = some (nI 0, O') ∧ Fw w O O' ∧ RK O' w T so (kk b n T r κ2 (U ||| 2 ^ c) k2) := fun O2 k2 κ2 p x hF ht hk2 wk2 hle hκ2 hD2 hs => by
            have h3 : (up O2 4 w p (nK T) x) 3 = O2 3 := funext fun q => up_row (Or.inl (by decide))
            obtain ⟨O', e', f', r'⟩ := c_kinds d hn hb hT hK r κ2 (U ||| 2 ^ c) k2 (i + 1) (up O2 4 w p (nK T) x) (by rw [h3]; exact ht) (CK.ro hk2 h3) wk2 hD2 (by omega) (by omega) hU' hκ2
            exact ⟨O', hs.trans e', (hF.trans Fw.up4).trans f', r'⟩
          rcases (by omega : c = 0 ∨ c = 1 ∨ c = 2 ∨ c = 3) with rfl | rfl | rfl | rfl
          · -- sees
            obtain ⟨x, O2, e2, f2, r2⟩ := RT.cl d hn hb (fb := 0) (by decide) h1 wk.2.1 r1
            rw [if_pos rfl, show d + 1 + 4 = d + 5 from rfl, e2] at st
            simp only [Option.bind_some] at st
            have F2 : Fw w O O2 := (Fw.fx f1).trans (Fw.fx f2)
            cases hq : nxt b n k.2.2 with
            | error e => rw [hq] at r2; exact ferr O2 e 15 x F2 r2 st
            | ok k1 =>
              rw [hq] at r2
              have r2 : RV O2 x (tkL b n 0 k1) := r2
              obtain ⟨wk1, le1⟩ := nxt_ok wk.2.1 hq
              show ∃ O', _ ∧ _ ∧ RK O' w T so (bnd (wth b n 0 T κ k1) fun p => kk b n T r p.1 (U ||| 2 ^ 0) p.2)
              rw [show wth b n 0 T κ k1 = bnd (tkL b n 0 k1) fun p => .ok ((p.1, κ.2.1, κ.2.2.1, κ.2.2.2), p.2) from rfl]
              cases hq2 : tkL b n 0 k1 with
              | error e => rw [hq2] at r2; exact ferr O2 e 15 x F2 r2 st
              | ok p =>
                rw [hq2] at r2
                obtain ⟨v1, -, wk2, le2⟩ := tkL_ok wk1 hq2
                have := wk1.1
                exact fgo O2 p.2 (p.1, κ.2) 15 x F2 (h1.fx f2) r2.2 wk2 (by omega) ⟨v1, hκ.2⟩ ((hD1.fx f2).set (Or.inl ⟨rfl, r2.1, rfl⟩)) st
          · -- fears
            obtain ⟨x, O2, e2, f2, r2⟩ := RT.cn d hn hb (bd := nT T) (by omega) h1 wk.2.1 r1
            rw [if_neg (by decide), if_pos rfl, hD1.1.1.1, show d + 1 + 4 = d + 5 from rfl, e2] at st
            simp only [Option.bind_some] at st
            have F2 : Fw w O O2 := (Fw.fx f1).trans (Fw.fx f2)
            cases hq : nxt b n k.2.2 with
            | error e => rw [hq] at r2; exact ferr O2 e 16 x F2 r2 st
            | ok k1 =>
              rw [hq] at r2
              have r2 : RV O2 x (tkN b n (nT T) k1) := r2
              obtain ⟨wk1, le1⟩ := nxt_ok wk.2.1 hq
              show ∃ O', _ ∧ _ ∧ RK O' w T so (bnd (wth b n 1 T κ k1) fun p => kk b n T r p.1 (U ||| 2 ^ 1) p.2)
              rw [show wth b n 1 T κ k1 = bnd (tkN b n (nT T) k1) fun p => .ok ((κ.1, some p.1, κ.2.2.1, κ.2.2.2), p.2) from rfl]
              cases hq2 : tkN b n (nT T) k1 with
              | error e => rw [hq2] at r2; exact ferr O2 e 16 x F2 r2 st
              | ok p =>
                rw [hq2] at r2
                obtain ⟨v1, wk2, le2⟩ := tkN_ok wk1 hq2
                have := wk1.1
                exact fgo O2 p.2 (κ.1, some p.1, κ.2.2) 16 x F2 (h1.fx f2) r2.2 wk2 (by omega) ⟨hκ.1, fun t ht => by cases ht; exact v1, hκ.2.2⟩ ((hD1.fx f2).set (Or.inr (Or.inl ⟨rfl, r2.1, rfl, rfl⟩))) st
          · -- unlike
            rw [if_neg (by decide), if_neg (by decide), if_neg (by decide)] at st
            have F2 : Fw w O O1 := Fw.fx f1
            cases hq : nxt b n k.2.2 with
            | error e => rw [hq] at r1; exact ferr O1 e 17 (nI 1) F2 r1 st
            | ok k1 =>
              rw [hq] at r1
              obtain ⟨wk1, le1⟩ := nxt_ok wk.2.1 hq
              exact fgo O1 k1 (κ.1, κ.2.1, true, κ.2.2.2) 17 (nI 1) F2 h1 r1 wk1 le1 hκ (hD1.set (Or.inr (Or.inr (Or.inl ⟨rfl, rfl, rfl, rfl, rfl⟩)))) st
          · -- chance
            obtain ⟨x, O2, e2, f2, r2⟩ := RT.cn d hn hb (bd := 10) (by decide) h1 wk.2.1 r1
            rw [if_neg (by decide), if_neg (by decide), if_pos rfl, show d + 1 + 4 = d + 5 from rfl, e2] at st
            simp only [Option.bind_some] at st
            have F2 : Fw w O O2 := (Fw.fx f1).trans (Fw.fx f2)
            cases hq : nxt b n k.2.2 with
            | error e => rw [hq] at r2; exact ferr O2 e 18 x F2 r2 st
            | ok k1 =>
              rw [hq] at r2
              have r2 : RV O2 x (tkN b n 10 k1) := r2
              obtain ⟨wk1, le1⟩ := nxt_ok wk.2.1 hq
              show ∃ O', _ ∧ _ ∧ RK O' w T so (bnd (wth b n 3 T κ k1) fun p => kk b n T r p.1 (U ||| 2 ^ 3) p.2)
              rw [show wth b n 3 T κ k1 = bnd (tkN b n 10 k1) fun p => .ok ((κ.1, κ.2.1, κ.2.2.1, p.1), p.2) from rfl]
              cases hq2 : tkN b n 10 k1 with
              | error e => rw [hq2] at r2; exact ferr O2 e 18 x F2 r2 st
              | ok p =>
                rw [hq2] at r2
                obtain ⟨v1, wk2, le2⟩ := tkN_ok wk1 hq2
                have := wk1.1
                exact fgo O2 p.2 (κ.1, κ.2.1, κ.2.2.1, p.1) 18 x F2 (h1.fx f2) r2.2 wk2 (by omega) ⟨hκ.1, hκ.2.1, by show p.1 ≤ 9; omega⟩ ((hD1.fx f2).set (Or.inr (Or.inr (Or.inr ⟨rfl, r2.1, rfl, rfl, rfl⟩)))) st
    · rw [hk.2.2.2.2, if_pos rfl, hk.2.1, if_neg (show ¬ nI k.1 = nI 1 by rw [nI_eq (by omega) (by decide)]; exact z1), ite_self] at st
      rw [if_neg z1]
      exact ⟨O, st, Fw.rfl, hk, hD⟩
theorem c_readKind (d : Nat) (hn : n ≤ 400) (hb : ∀ j, b j < 256) {O : Mem_} {k : Tk_} {so : Nat} (h : CTp (O 3 0) (n, b)) (hk : CK O k) (wk : WTk b n k) (hD : CD (O 4 w) T) (hT : WT T) : ∃ O', ex (d + 6) 32 0 [some (vr 3 0 0), some (vr 4 w 0), some (vi (nI so))] [] O = some (nI 0, O') ∧ Fw w O O' ∧ RL O' w (rdKind b n T so k) := by
  have w1 := wk.1
  have w2 := wk.2.1
  have h6 := hT.2.2.2.1
  have st := sX3_readKind_0 (d + 5) O w (nI so)
  rw [hD.1.2.2.2] at st
  unfold rdKind
  by_cases z : nK T < 6
  · rw [if_pos (nI_lt z (by decide))] at st
    rw [if_pos z]
    obtain ⟨O0, e0, f0, d0⟩ := c_addKind (d + 4) (so := so) hD z
    have hk0 := CK.ro hk f0.at3
    have ht0 : CTp (O0 3 0) (n, b) := by rw [f0.at3]; exact h
    obtain ⟨O1, e1, f1, r1⟩ := c_nextToken (d + 1) hn hb ht0 wk.2.1 hk0.1 hk0.2.2.2.2
    have d1 := d0.fx f1
    rw [e0] at st
    simp only [Option.bind_some] at st
    rw [show d + 5 = d + 1 + 4 from rfl, e1] at st
    simp only [Option.bind_some] at st
    have F1 : Fw w O O1 := (Fw.ro f0).trans (Fw.fx f1)
    cases hq : nxt b n k.2.2 with
    | error e =>
      rw [hq] at r1
      refine ⟨O1, st.trans ((sX3_readKind_35 ..).trans ?_), F1, r1⟩
      rw [if_neg (c_flt r1), ite_self]
    | ok k1 =>
      rw [hq] at r1
      obtain ⟨wk1, le1⟩ := nxt_ok wk.2.1 hq
      obtain ⟨O', e', f', r'⟩ := c_kinds d hn hb hT z (so := so) (n + 1) (255, none, false, 1) 0 k1 0 O1 (ht0.fx f1) r1 wk1 d1 (by omega) (Nat.zero_le _) (by decide) ⟨by decide, (fun t ht => by cases ht), by decide⟩
      refine ⟨O', st.trans e', F1.trans f', ?_⟩
      show RL O' w (bnd (kk b n T (n + 1) (255, none, false, 1) 0 k1) _)
      cases hq2 : kk b n T (n + 1) (255, none, false, 1) 0 k1 with
      | error e => rw [hq2] at r'; exact r'
      | ok p => rw [hq2] at r'; exact ⟨r'.1, r'.2.cd⟩
  · rw [if_neg (nI_nlt (show 6 ≤ nK T by omega) (by omega))] at st
    rw [if_neg z]
    obtain ⟨O2, e2, f2, g2⟩ := c_blame (d + 4) (f := 5) hk.2.2.1 (by decide) (by omega)
    rw [e2] at st
    exact ⟨O2, st, Fw.fx f2, g2⟩
end
