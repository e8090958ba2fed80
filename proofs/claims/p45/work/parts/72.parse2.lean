/-! A TEXT, 2: what is read stands well. -/
section
variable {b : Nat → Nat} {n : Nat}
theorem bnd_ok {α β : Type} {r : Pr_ α} {f : α → Pr_ β} {y : β} (h : bnd r f = .ok y) : ∃ a, r = .ok a ∧ f a = .ok y := by
  cases r with
  | error e => cases h
  | ok a => exact ⟨a, rfl, h⟩
theorem lets_ok {fb : Nat} : ∀ (r i a v : Nat), lets b fb r i a = some v → a < 256 → a &&& fb = 0 → v < 256 ∧ v &&& fb = 0
  | 0, _, a, v, h, h1, h2 => by cases h; exact ⟨h1, h2⟩
  | r + 1, i, a, v, h, h1, h2 => by
    unfold lets at h
    split at h
    · rename_i hc
      have hp : (2:Nat) ^ (b i - 97) < 2 ^ 8 := Nat.pow_lt_pow_right (by decide) hc.1
      refine lets_ok r (i + 1) _ v h (Nat.or_lt_two_pow (n := 8) h1 hp) ?_
      have h3 := hc.2
      rw [Nat.testBit_or, Bool.or_eq_false_iff] at h3
      exact (or_and0 _ _ _).mpr ⟨h2, (and_pow _ _).mpr h3.2⟩
    · cases h
theorem tkL_ok {fb : Nat} {k : Tk_} {p : Nat × Tk_} (wk : WTk b n k) (h : tkL b n fb k = .ok p) : p.1 < 256 ∧ p.1 &&& fb = 0 ∧ WTk b n p.2 ∧ k.2.2 ≤ p.2.2.1 := by
  unfold tkL at h
  split at h
  · split at h
    · cases h
    · rename_i v hv
      obtain ⟨q, h1, h2⟩ := bnd_ok h
      cases h2
      obtain ⟨a1, a2⟩ := nxt_ok wk.2.1 h1
      obtain ⟨b1, b2⟩ := lets_ok _ _ _ _ hv (by decide) (Nat.zero_and _)
      exact ⟨b1, b2, a1, a2⟩
  · split at h
    · obtain ⟨q, h1, h2⟩ := bnd_ok h
      cases h2
      obtain ⟨a1, a2⟩ := nxt_ok wk.2.1 h1
      exact ⟨(by decide : 0 < 256), Nat.zero_and _, a1, a2⟩
    · cases h
theorem tkN_ok {bd : Nat} {k : Tk_} {p : Nat × Tk_} (wk : WTk b n k) (h : tkN b n bd k = .ok p) : p.1 < bd ∧ WTk b n p.2 ∧ k.2.2 ≤ p.2.2.1 := by
  unfold tkN at h
  split at h
  · split at h
    · rename_i hv
      obtain ⟨q, h1, h2⟩ := bnd_ok h
      cases h2
      obtain ⟨a1, a2⟩ := nxt_ok wk.2.1 h1
      exact ⟨hv, a1, a2⟩
    · cases h
  · cases h
theorem nmv_lt {k : Tk_} (wk : WTk b n k) (h : k.1 = 2) : nmv b k < 100 := by
  have h1 := wk.2.2.2.2.2 h
  have h2 := wk.2.2.2.2.1 (Or.inr h)
  have h3 := wk.1
  unfold nmv
  rcases (by omega : k.2.2 - k.2.1 = 0 ∨ k.2.2 - k.2.1 = 1 ∨ k.2.2 - k.2.1 = 2) with e | e | e
  · rw [e]; exact (by decide : 0 < 100)
  · rw [e]
    have := cls_2 ((h2 k.2.1 (Nat.le_refl _) (by omega)).trans h)
    simp only [nums]
    omega
  · rw [e]
    have a := cls_2 ((h2 k.2.1 (Nat.le_refl _) (by omega)).trans h)
    have c := cls_2 ((h2 (k.2.1 + 1) (by omega) (by omega)).trans h)
    simp only [nums]
    omega
theorem gd_last {α : Type} {l : List α} {x y : α} : (l ++ [x]).getD l.length y = x := by
  rw [List.getD_eq_getElem?_getD, List.getElem?_append_right (Nat.le_refl _), Nat.sub_self]; rfl
theorem gd_old {α : Type} {l : List α} {x y : α} {j : Nat} (h : j < l.length) : (l ++ [x]).getD j y = l.getD j y := by
  rw [List.getD_eq_getElem?_getD, List.getD_eq_getElem?_getD, List.getElem?_append_left h]
theorem gd_out {α : Type} {l : List α} {y : α} {j : Nat} (h : l.length ≤ j) : l.getD j y = y := by
  rw [List.getD_eq_getElem?_getD, List.getElem?_eq_none h]; rfl
theorem gd_new {α : Type} {l : List α} {x y : α} (P : α → Prop) (h : ∀ j, P (l.getD j y)) (hx : P x) (hy : P y) (j : Nat) : P ((l ++ [x]).getD j y) := by
  rcases Nat.lt_trichotomy j l.length with z | z | z
  · rw [gd_old z]; exact h j
  · rw [z, gd_last]; exact hx
  · rw [gd_out (by rw [List.length_append, List.length_singleton]; omega)]; exact hy
theorem WT_td0 : WT td0 := by
  refine ⟨by decide, by decide, by decide, by decide, fun t => ?_, fun m => ?_, fun s hs => ?_, fun k => ?_, fun k t h => ?_⟩
  · exact (by decide : 0 < 256)
  · exact ⟨(by decide : 0 < 256), (by decide : 0 < 256), Nat.zero_and _⟩
  · exact absurd hs (Nat.not_lt_zero s)
  · exact ⟨(by decide : 0 < 4), (by decide : 0 < 256), (by decide : 0 ≤ 9)⟩
  · cases h
theorem aT_ok {T : Td_} {v : Nat} (h : WT T) (hn : nT T < 8) (hv : v < 256) : WT (aT T v) := by
  obtain ⟨h1, h2, h3, h4, h5, h6, h7, h8, h9⟩ := h
  have e : nT (aT T v) = nT T + 1 := List.length_append
  refine ⟨by omega, h2, h3, h4, fun t => ?_, h6, h7, h8, fun k t hk => ?_⟩
  · exact gd_new (fun z => z < 256) h5 hv (by decide) t
  · have := h9 k t hk; omega
theorem aM_ok {T : Td_} {x y : Nat} (h : WT T) (hn : nM T < 12) (hx : x < 256) (hy : y < 256) (hxy : x &&& y = 0) : WT (aM T x y) := by
  obtain ⟨h1, h2, h3, h4, h5, h6, h7, h8, h9⟩ := h
  have e : nM (aM T x y) = nM T + 1 := List.length_append
  refine ⟨h1, by omega, h3, h4, h5, fun m => ?_, fun s hs => ?_, h8, h9⟩
  · exact gd_new (fun z : Nat × Nat => z.1 < 256 ∧ z.2 < 256 ∧ z.1 &&& z.2 = 0) h6 ⟨hx, hy, hxy⟩ (by decide) m
  · have := h7 s hs
    show tg_ T s < _
    omega
theorem aS_ok {T : Td_} {v : Nat} (h : WT T) (hn : nS T < 4) (hv : v < nM T) : WT (aS T v) := by
  obtain ⟨h1, h2, h3, h4, h5, h6, h7, h8, h9⟩ := h
  have e : nS (aS T v) = nS T + 1 := List.length_append
  refine ⟨h1, h2, by omega, h4, h5, h6, fun s hs => ?_, h8, h9⟩
  show (T.2.2.1 ++ [v]).getD s 0 < nM T
  by_cases z : s = nS T
  · rw [z]
    show (T.2.2.1 ++ [v]).getD T.2.2.1.length 0 < nM T
    rw [gd_last]; exact hv
  · rw [gd_old (show s < T.2.2.1.length by show s < nS T; omega)]
    exact h7 s (by omega)
/-- what follows a kind is in its bounds -/
def WKp (T : Td_) (κ : Kp_) : Prop := κ.1 < 256 ∧ (∀ t, κ.2.1 = some t → t < nT T) ∧ κ.2.2.2 ≤ 9
theorem aK_ok {T : Td_} {so : Nat} {κ : Kp_} (h : WT T) (hn : nK T < 6) (hs : so < 4) (hκ : WKp T κ) : WT (aK T so κ) := by
  obtain ⟨h1, h2, h3, h4, h5, h6, h7, h8, h9⟩ := h
  have e : nK (aK T so κ) = nK T + 1 := List.length_append
  refine ⟨h1, h2, h3, by omega, h5, h6, h7, fun k => ?_, fun k t hk => ?_⟩
  · exact gd_new (fun z : Nat × Nat × Option Nat × Bool × Nat => z.1 < 4 ∧ z.2.1 < 256 ∧ z.2.2.2.2 ≤ 9) h8 ⟨hs, hκ.1, hκ.2.2⟩ (by decide) k
  · exact gd_new (fun z : Nat × Nat × Option Nat × Bool × Nat => ∀ t, z.2.2.1 = some t → t < nT T) h9 hκ.2.1 (fun t h => by cases h) k t hk
theorem wth_ok {c : Nat} {T : Td_} {κ : Kp_} {k : Tk_} {p : Kp_ × Tk_} (wk : WTk b n k) (hκ : WKp T κ) (h : wth b n c T κ k = .ok p) : WKp T p.1 ∧ WTk b n p.2 ∧ k.2.1 ≤ p.2.2.1 := by
  have hk := wk.1
  unfold wth at h
  split at h
  · obtain ⟨q, h1, h2⟩ := bnd_ok h
    cases h2
    obtain ⟨a1, a2, a3, a4⟩ := tkL_ok wk h1
    exact ⟨⟨a1, hκ.2⟩, a3, Nat.le_trans hk a4⟩
  · split at h
    · obtain ⟨q, h1, h2⟩ := bnd_ok h
      cases h2
      obtain ⟨a1, a2, a3⟩ := tkN_ok wk h1
      exact ⟨⟨hκ.1, fun t ht => by cases ht; exact a1, hκ.2.2⟩, a2, Nat.le_trans hk a3⟩
    · split at h
      · obtain ⟨q, h1, h2⟩ := bnd_ok h
        cases h2
        obtain ⟨a1, a2, a3⟩ := tkN_ok wk h1
        exact ⟨⟨hκ.1, hκ.2.1, by show q.1 ≤ 9; omega⟩, a2, Nat.le_trans hk a3⟩
      · cases h
        exact ⟨hκ, wk, Nat.le_refl _⟩
theorem kk_ok {T : Td_} : ∀ (r : Nat) (κ : Kp_) (U : Nat) (k : Tk_) (p : Kp_ × Tk_), WTk b n k → WKp T κ → kk b n T r κ U k = .ok p → WKp T p.1 ∧ WTk b n p.2 ∧ k.2.1 ≤ p.2.2.1
  | 0, _, _, _, _, _, _, h => by cases h
  | r + 1, κ, U, k, p, wk, hκ, h => by
    unfold kk at h
    split at h
    · split at h
      · cases h
      · split at h
        · cases h
        · obtain ⟨k1, h1, h⟩ := bnd_ok h
          obtain ⟨q, h2, h⟩ := bnd_ok h
          obtain ⟨a1, a2⟩ := nxt_ok wk.2.1 h1
          obtain ⟨b1, b2, b3⟩ := wth_ok a1 hκ h2
          obtain ⟨c1, c2, c3⟩ := kk_ok r _ _ _ _ b2 b1 h
          have := wk.1
          exact ⟨c1, c2, by omega⟩
    · cases h
      exact ⟨hκ, wk, Nat.le_refl _⟩
theorem rdBody_ok {c : Nat} {T : Td_} {k : Tk_} {p : Td_ × Tk_} (hT : WT T) (wk : WTk b n k) (hc : c ≤ 3 ∨ c = 10 ∨ c = 11 ∨ c = 12) (h : rdBody b n c T k = .ok p) : WT p.1 ∧ WTk b n p.2 ∧ k.2.2 ≤ p.2.2.1 := by
  unfold rdBody at h
  split at h
  · unfold rdThing at h
    split at h
    · rename_i hn
      obtain ⟨k1, h1, h⟩ := bnd_ok h
      obtain ⟨q, h2, h⟩ := bnd_ok h
      cases h
      obtain ⟨a1, a2⟩ := nxt_ok wk.2.1 h1
      obtain ⟨b1, b2, b3, b4⟩ := tkL_ok a1 h2
      have := a1.1
      exact ⟨aT_ok hT hn b1, b3, by show k.2.2 ≤ q.2.2.1; omega⟩
    · cases h
  · split at h
    · unfold rdMean at h
      split at h
      · rename_i hn
        obtain ⟨k1, h1, h⟩ := bnd_ok h
        obtain ⟨q, h2, h⟩ := bnd_ok h
        obtain ⟨a1, a2⟩ := nxt_ok wk.2.1 h1
        obtain ⟨b1, b2, b3, b4⟩ := tkL_ok a1 h2
        have l1 := a1.1
        unfold rdNot at h
        split at h
        · split at h
          · obtain ⟨k3, h3, h⟩ := bnd_ok h
            obtain ⟨q2, h4, h⟩ := bnd_ok h
            cases h
            obtain ⟨c1, c2⟩ := nxt_ok b3.2.1 h3
            obtain ⟨d1, d2, d3, d4⟩ := tkL_ok c1 h4
            have l2 := b3.1
            have l3 := c1.1
            exact ⟨aM_ok hT hn b1 d1 (by rw [Nat.and_comm]; exact d2), d3, by show k.2.2 ≤ q2.2.2.1; omega⟩
          · cases h
        · cases h
          exact ⟨aM_ok hT hn b1 (by decide) (Nat.and_zero _), b3, by show k.2.2 ≤ q.2.2.1; omega⟩
      · cases h
    · split at h
      · unfold rdWord at h
        split at h
        · rename_i hn
          obtain ⟨k1, h1, h⟩ := bnd_ok h
          obtain ⟨q, h2, h⟩ := bnd_ok h
          cases h
          obtain ⟨a1, a2⟩ := nxt_ok wk.2.1 h1
          obtain ⟨b1, b2, b3⟩ := tkN_ok a1 h2
          have := a1.1
          exact ⟨aS_ok hT hn b1, b2, by show k.2.2 ≤ q.2.2.1; omega⟩
        · cases h
      · unfold rdKind at h
        split at h
        · rename_i hn
          obtain ⟨k1, h1, h⟩ := bnd_ok h
          obtain ⟨q, h2, h⟩ := bnd_ok h
          cases h
          obtain ⟨a1, a2⟩ := nxt_ok wk.2.1 h1
          obtain ⟨b1, b2, b3⟩ := kk_ok _ _ _ _ _ a1 ⟨by decide, (fun t ht => by cases ht), by decide⟩ h2
          exact ⟨aK_ok hT hn (by omega) b1, b2, by show k.2.2 ≤ q.2.2.1; omega⟩
        · cases h
theorem lcd_of {k : Tk_} {c : Nat} (h : lcd b k = some c) : (c ≤ 3 ∨ c = 10 ∨ c = 11 ∨ c = 12) ∧ codeK b k = some c ∧ k.1 = 1 := by
  unfold lcd at h
  obtain ⟨c', h1, h2⟩ := Option.bind_eq_some_iff.mp h
  split at h2
  · cases h2
    have h3 := h1
    unfold codeK at h3
    split at h3
    · rename_i hk
      have := codeW_some h3
      exact ⟨by omega, h1, hk⟩
    · cases h3
  · cases h2
theorem rdLine_ok {T : Td_} {k : Tk_} {p : Td_ × Tk_} (hT : WT T) (wk : WTk b n k) (h : rdLine b n T k = .ok p) : WT p.1 ∧ WTk b n p.2 ∧ k.2.1 < p.2.2.1 := by
  unfold rdLine at h
  split at h
  · cases h
  · rename_i c hc
    obtain ⟨hc1, -, hk⟩ := lcd_of hc
    obtain ⟨q, h1, h⟩ := bnd_ok h
    obtain ⟨a1, a2, a3⟩ := rdBody_ok hT wk hc1 h1
    have l1 := wk.2.2.2.1 (by omega)
    unfold rdEnd at h
    split at h
    · obtain ⟨k1, h2, h⟩ := bnd_ok h
      cases h
      obtain ⟨b1, b2⟩ := nxt_ok a2.2.1 h2
      have := a2.1
      exact ⟨a1, b1, by show k.2.1 < k1.2.1; omega⟩
    · cases h
theorem rdAll_ok : ∀ (r : Nat) (T : Td_) (k : Tk_) (c : Nat) (p : Td_ × Nat), WT T → WTk b n k → rdAll b n r T k c = .ok p → WT p.1
  | 0, _, _, _, _, _, _, h => by cases h
  | r + 1, T, k, c, p, hT, wk, h => by
    unfold rdAll at h
    split at h
    · cases h; exact hT
    · obtain ⟨q, h1, h⟩ := bnd_ok h
      obtain ⟨a1, a2, -⟩ := rdLine_ok hT wk h1
      exact rdAll_ok r _ _ _ _ a1 a2 h
theorem rdText_ok {p : Td_ × Nat} (h : rdText b n = .ok p) : WT p.1 := by
  unfold rdText at h
  obtain ⟨k, h1, h⟩ := bnd_ok h
  exact rdAll_ok _ _ _ _ _ WT_td0 (nxt_ok (Nat.zero_le _) h1).1 h
end
