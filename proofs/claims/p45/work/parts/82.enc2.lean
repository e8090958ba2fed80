/-! THE LAW'S TEXT, 2: lines. -/
section
variable {b : Nat → Nat} {n : Nat}
theorem bnd_o {α β : Type} (a : α) (f : α → Pr_ β) : bnd (.ok a) f = f a := rfl
theorem bnd_b {α β γ : Type} (r : Pr_ α) (f : α → Pr_ β) (g : β → Pr_ γ) : bnd (bnd r f) g = bnd r fun a => bnd (f a) g := by cases r <;> rfl
theorem txL_hd {e a : Nat} (h : At b n e (txL a)) : e < n ∧ b e = 32 := ⟨h.hd.1, h.hd.2.1⟩
/-- a name that stands at once -/
theorem rd_W0 {e : Nat} {w : List Nat} (h : At b n e w) (hw : 0 < w.length) (hl : ∀ x ∈ w, 97 ≤ x ∧ x ≤ 122) (ho : cls b n (e + w.length) ≠ 1) : nxt b n e = .ok (1, e, e + w.length) ∧ wrd b (1, e, e + w.length) = w := by
  cases w with
  | nil => exact absurd hw (Nat.lt_irrefl 0)
  | cons c w =>
    have hb := h.hd.2.1
    have hc := hl c List.mem_cons_self
    exact nx_name (skp_0 (Or.inr (by omega))) h hw hl ho
/-- a name behind a blank -/
theorem rd_W1 {e : Nat} {w : List Nat} (h : At b n e (32 :: w)) (hw : 0 < w.length) (hl : ∀ x ∈ w, 97 ≤ x ∧ x ≤ 122) (ho : cls b n (e + (32 :: w).length) ≠ 1) : nxt b n e = .ok (1, e + 1, e + (32 :: w).length) ∧ wrd b (1, e + 1, e + (32 :: w).length) = w := by
  obtain ⟨he, hb, h1⟩ := h.hd
  cases w with
  | nil => exact absurd hw (Nat.lt_irrefl 0)
  | cons c w =>
    have hb1 := h1.hd.2.1
    have hc := hl c List.mem_cons_self
    have e1 : e + (32 :: c :: w).length = e + 1 + (c :: w).length := by rw [List.length_cons (a := 32)]; omega
    rw [e1] at ho ⊢
    exact nx_name (by rw [skp_1 he hb, skp_0 (Or.inr (by omega))]) h1 hw hl ho
theorem semi_cl {e : Nat} {l : List Nat} (h : At b n e (59 :: l)) : cls b n e = 3 := cl_semi h.hd.1 h.hd.2.1
theorem semi_nx {e : Nat} {l : List Nat} (h : At b n e (59 :: l)) : nxt b n e = .ok (3, e, e + 1) := nx_semi (skp_0 (Or.inr (by rw [h.hd.2.1]; decide))) h.hd.1 h.hd.2.1
theorem sp_cl {e : Nat} {l : List Nat} (h : At b n e (32 :: l)) : cls b n e = 5 := cl_sp h.hd.1 h.hd.2.1
theorem lcd_is {k : Tk_} {w : List Nat} {c : Nat} (h1 : k.1 = 1) (hw : wrd b k = w) (hc : codeW w = some c) (h12 : c ≤ 12) : lcd b k = some c := by
  unfold lcd codeK
  rw [if_pos h1, hw, hc, Option.bind_some, if_pos h12]
theorem rdLine_is {T : Td_} {k : Tk_} {c : Nat} (h : lcd b k = some c) : rdLine b n T k = bnd (rdBody b n c T k) (rdEnd b n) := by
  unfold rdLine
  rw [h]
theorem rdEnd_is {T : Td_} {p : Nat} : rdEnd b n (T, (3, p, p + 1)) = bnd (nxt b n (p + 1)) fun k => .ok (T, k) := by
  unfold rdEnd
  rw [if_pos rfl]
theorem rd_thing {T : Td_} {e a : Nat} (ha : a < 256) (hn : nT T < 8) (h : At b n e (lnT a)) : ∃ k, nxt b n e = .ok k ∧ k.1 ≠ 0 ∧ rdLine b n T k = bnd (nxt b n (e + (lnT a).length)) fun q => .ok (aT T a, q) := by
  unfold lnT at h
  obtain ⟨h1, h2⟩ := h.app
  obtain ⟨h3, h4⟩ := h2.app
  obtain ⟨g1, g2⟩ := rd_W0 (w := w_thing) h1 (by decide) (by decide) (by rw [sp_cl h3]; decide)
  obtain ⟨k1, r1, r2⟩ := rd_L (fb := 0) ha (Nat.and_zero a) h3 (by rw [semi_cl h4]; decide)
  refine ⟨_, g1, Nat.one_ne_zero, ?_⟩
  rw [rdLine_is (lcd_is (c := 10) rfl g2 (by decide) (by decide))]
  have hb : rdBody b n 10 T (1, e, e + w_thing.length) = .ok (aT T a, (3, e + w_thing.length + (txL a).length, e + w_thing.length + (txL a).length + 1)) := by
    show rdThing b n T _ = _
    unfold rdThing
    rw [if_pos hn, show (1, e, e + w_thing.length).2.2 = e + w_thing.length from rfl, r1, bnd_o, r2, semi_nx h4]
    rfl
  rw [hb, bnd_o, rdEnd_is]
  congr 2
  unfold lnT
  rw [List.length_append, List.length_append, List.length_singleton]
  omega
theorem rd_mean {T : Td_} {e x y : Nat} (hx : x < 256) (hy : y < 256) (hxy : x &&& y = 0) (hn : nM T < 12) (h : At b n e (lnM (x, y))) : ∃ k, nxt b n e = .ok k ∧ k.1 ≠ 0 ∧ rdLine b n T k = bnd (nxt b n (e + (lnM (x, y)).length)) fun q => .ok (aM T x y, q) := by
  have eL : lnM (x, y) = w_means ++ (txL x ++ ((if y = 0 then [] else (32 :: w_not) ++ txL y) ++ [59])) := rfl
  rw [eL] at h ⊢
  obtain ⟨h1, h2⟩ := h.app
  obtain ⟨h3, h4⟩ := h2.app
  obtain ⟨g1, g2⟩ := rd_W0 (w := w_means) h1 (by decide) (by decide) (by rw [sp_cl h3]; decide)
  by_cases hy0 : y = 0
  · have e0 : ((if y = 0 then [] else (32 :: w_not) ++ txL y) ++ [59] : List Nat) = [59] := by
      rw [if_pos hy0]; rfl
    rw [e0] at h4 ⊢
    obtain ⟨k1, r1, r2⟩ := rd_L (fb := 0) hx (Nat.and_zero x) h3 (by rw [semi_cl h4]; decide)
    refine ⟨_, g1, Nat.one_ne_zero, ?_⟩
    rw [rdLine_is (lcd_is (c := 11) rfl g2 (by decide) (by decide))]
    have hb : rdBody b n 11 T (1, e, e + w_means.length) = .ok (aM T x y, (3, e + w_means.length + (txL x).length, e + w_means.length + (txL x).length + 1)) := by
      show rdMean b n T _ = _
      unfold rdMean
      rw [if_pos hn, show (1, e, e + w_means.length).2.2 = e + w_means.length from rfl, r1, bnd_o, r2, semi_nx h4, bnd_o, bnd_o]
      unfold rdNot
      rw [if_neg (show ¬ (3 : Nat) = 1 by decide), hy0]
    rw [hb, bnd_o, rdEnd_is]
    congr 2
    rw [List.length_append, List.length_append, List.length_singleton]
    omega
  · have e0 : ((if y = 0 then [] else (32 :: w_not) ++ txL y) ++ [59] : List Nat) = (32 :: w_not) ++ (txL y ++ [59]) := by
      rw [if_neg hy0, List.append_assoc]
    rw [e0] at h4 ⊢
    obtain ⟨h5, h6⟩ := h4.app
    obtain ⟨h7, h8⟩ := h6.app
    obtain ⟨k1, r1, r2⟩ := rd_L (fb := 0) hx (Nat.and_zero x) h3 (by rw [sp_cl h5]; decide)
    obtain ⟨g3, g4⟩ := rd_W1 (w := w_not) h5 (by decide) (by decide) (by rw [sp_cl h7]; decide)
    obtain ⟨k2, r3, r4⟩ := rd_L (fb := x) hy (by rw [Nat.and_comm]; exact hxy) h7 (by rw [semi_cl h8]; decide)
    refine ⟨_, g1, Nat.one_ne_zero, ?_⟩
    rw [rdLine_is (lcd_is (c := 11) rfl g2 (by decide) (by decide))]
    have hb : rdBody b n 11 T (1, e, e + w_means.length) = .ok (aM T x y, (3, e + w_means.length + (txL x).length + (32 :: w_not).length + (txL y).length, e + w_means.length + (txL x).length + (32 :: w_not).length + (txL y).length + 1)) := by
      show rdMean b n T _ = _
      unfold rdMean
      rw [if_pos hn, show (1, e, e + w_means.length).2.2 = e + w_means.length from rfl, r1, bnd_o, r2, g3, bnd_o, bnd_o]
      unfold rdNot codeK
      rw [if_pos rfl, if_pos rfl, g4, if_pos (by decide), show (1, e + w_means.length + (txL x).length + 1, e + w_means.length + (txL x).length + (32 :: w_not).length).2.2 = e + w_means.length + (txL x).length + (32 :: w_not).length from rfl, r3, bnd_o, r4, semi_nx h8]
      rfl
    rw [hb, bnd_o, rdEnd_is]
    congr 2
    rw [List.length_append, List.length_append, List.length_append, List.length_append, List.length_singleton]
    omega
theorem rd_word {T : Td_} {e v : Nat} (hv : v < 10) (hvm : v < nM T) (hn : nS T < 4) (h : At b n e (lnW v)) : ∃ k, nxt b n e = .ok k ∧ k.1 ≠ 0 ∧ rdLine b n T k = bnd (nxt b n (e + (lnW v).length)) fun q => .ok (aS T v, q) := by
  unfold lnW at h
  obtain ⟨h1, h2⟩ := h.app
  obtain ⟨h3, h4⟩ := h2.app
  obtain ⟨g1, g2⟩ := rd_W0 (w := w_word) h1 (by decide) (by decide) (by rw [sp_cl h3]; decide)
  obtain ⟨k1, r1, r2⟩ := rd_N hv hvm h3 (by rw [show e + w_word.length + 2 = e + w_word.length + (txN v).length from rfl, semi_cl h4]; decide)
  refine ⟨_, g1, Nat.one_ne_zero, ?_⟩
  rw [rdLine_is (lcd_is (c := 12) rfl g2 (by decide) (by decide))]
  have hb : rdBody b n 12 T (1, e, e + w_word.length) = .ok (aS T v, (3, e + w_word.length + 2, e + w_word.length + 2 + 1)) := by
    show rdWord b n T _ = _
    unfold rdWord
    rw [if_pos hn, show (1, e, e + w_word.length).2.2 = e + w_word.length from rfl, r1, bnd_o, r2, show e + w_word.length + 2 = e + w_word.length + (txN v).length from rfl, semi_nx h4]
    rfl
  rw [hb, bnd_o, rdEnd_is]
  rfl
/-- what follows a kind -/
theorem kk_step {T : Td_} {r U c : Nat} {κ : Kp_} {k : Tk_} {w : List Nat} (h1 : k.1 = 1) (hw : wrd b k = w) (hc : codeW w = some (14 + c)) (hU : U.testBit c = false) : kk b n T (r + 1) κ U k = bnd (nxt b n k.2.2) fun k1 => bnd (wth b n c T κ k1) fun p => kk b n T r p.1 (U ||| 2 ^ c) p.2 := by
  have hwc : wcd b k = some c := by
    unfold wcd codeK
    rw [if_pos h1, hw, hc, Option.bind_some, if_pos (by omega), Nat.add_sub_cancel_left]
  rw [kk, if_pos h1, hwc]
  show (if U.testBit c = true then _ else _) = _
  rw [hU, if_neg Bool.false_ne_true]
theorem kk_end {T : Td_} {r U : Nat} {κ : Kp_} {k : Tk_} (h1 : k.1 ≠ 1) : kk b n T (r + 1) κ U k = .ok (κ, k) := by
  rw [kk, if_neg h1]
theorem kk3 {T : Td_} {p se U c : Nat} {f : Option Nat} {u : Bool} (hs : se < 256) (hU : U.testBit 0 = false) (h : At b n p (lnK3 se)) : cls b n p ≠ 1 ∧ cls b n p ≠ 2 ∧ ∃ k, nxt b n p = .ok k ∧ ∀ r, kk b n T (r + 2) (255, f, u, c) U k = .ok ((se, f, u, c), (3, p + (lnK3 se).length - 1, p + (lnK3 se).length - 1 + 1)) := by
  unfold lnK3 at h ⊢
  by_cases h0 : se = 255
  · rw [if_pos h0] at h ⊢
    refine ⟨by rw [semi_cl h]; decide, by rw [semi_cl h]; decide, _, semi_nx h, fun r => ?_⟩
    rw [kk_end (show (3 : Nat) ≠ 1 by decide), h0]
    rfl
  · rw [if_neg h0, List.append_assoc] at h
    rw [if_neg h0, List.append_assoc]
    obtain ⟨h1, h2⟩ := h.app
    obtain ⟨h3, h4⟩ := h2.app
    obtain ⟨g1, g2⟩ := rd_W1 (w := w_sees) h1 (by decide) (by decide) (by rw [sp_cl h3]; decide)
    obtain ⟨k1, r1, r2⟩ := rd_L (fb := 0) hs (Nat.and_zero se) h3 (by rw [semi_cl h4]; decide)
    refine ⟨by rw [sp_cl h1]; decide, by rw [sp_cl h1]; decide, _, g1, fun r => ?_⟩
    rw [kk_step (c := 0) rfl g2 (by decide) hU, show (1, p + 1, p + (32 :: w_sees).length).2.2 = p + (32 :: w_sees).length from rfl, r1, bnd_o]
    unfold wth
    rw [if_pos rfl, r2, semi_nx h4, bnd_o, bnd_o, bnd_o]
    show kk b n T (r + 1) (se, f, u, c) _ (3, _, _) = _
    rw [kk_end (show (3 : Nat) ≠ 1 by decide)]
    have e1 : p + ((32 :: w_sees) ++ (txL se ++ [59])).length - 1 = p + (32 :: w_sees).length + (txL se).length := by
      rw [List.length_append, List.length_append, List.length_singleton]
      omega
    rw [e1]
theorem kk2 {T : Td_} {p se U c : Nat} {fe : Option Nat} {u : Bool} (hs : se < 256) (hf : ∀ t, fe = some t → t < 10 ∧ t < nT T) (hU0 : U.testBit 0 = false) (hU1 : U.testBit 1 = false) (h : At b n p (lnK2 fe se)) : cls b n p ≠ 1 ∧ cls b n p ≠ 2 ∧ ∃ k, nxt b n p = .ok k ∧ ∀ r, kk b n T (r + 3) (255, none, u, c) U k = .ok ((se, fe, u, c), (3, p + (lnK2 fe se).length - 1, p + (lnK2 fe se).length - 1 + 1)) := by
  unfold lnK2 at h ⊢
  cases fe with
  | none =>
    have h : At b n p (lnK3 se) := h
    obtain ⟨a1, a2, k, g1, g2⟩ := kk3 (T := T) (U := U) (c := c) (f := none) (u := u) hs hU0 h
    exact ⟨a1, a2, k, g1, fun r => g2 (r + 1)⟩
  | some t =>
    obtain ⟨ht, htn⟩ := hf t rfl
    have h : At b n p (((32 :: w_fears) ++ txN t) ++ lnK3 se) := h
    show _ ∧ _ ∧ ∃ k, _ ∧ ∀ r, _ = Except.ok ((se, some t, u, c), (3, p + (((32 :: w_fears) ++ txN t) ++ lnK3 se).length - 1, p + (((32 :: w_fears) ++ txN t) ++ lnK3 se).length - 1 + 1))
    rw [List.append_assoc] at h ⊢
    obtain ⟨h1, h2⟩ := h.app
    obtain ⟨h3, h4⟩ := h2.app
    have hl3 : 0 < (lnK3 se).length := by unfold lnK3; rw [List.length_append, List.length_singleton]; omega
    obtain ⟨a1, a2, k3, q1, q2⟩ := kk3 (T := T) (U := U ||| 2 ^ 1) (c := c) (f := some t) (u := u) hs (by rw [Nat.testBit_or, hU0]; rfl) h4
    obtain ⟨g1, g2⟩ := rd_W1 (w := w_fears) h1 (by decide) (by decide) (by rw [sp_cl h3]; decide)
    obtain ⟨k1, r1, r2⟩ := rd_N ht htn h3 a2
    refine ⟨by rw [sp_cl h1]; decide, by rw [sp_cl h1]; decide, _, g1, fun r => ?_⟩
    rw [kk_step (c := 1) rfl g2 (by decide) hU1, show (1, p + 1, p + (32 :: w_fears).length).2.2 = p + (32 :: w_fears).length from rfl, r1, bnd_o]
    unfold wth
    rw [if_neg (by decide), if_pos rfl, r2, show p + (32 :: w_fears).length + 2 = p + (32 :: w_fears).length + (txN t).length from rfl, q1, bnd_o, bnd_o, bnd_o]
    have e1 : p + ((32 :: w_fears) ++ (txN t ++ lnK3 se)).length - 1 = p + (32 :: w_fears).length + (txN t).length + (lnK3 se).length - 1 := by
      rw [List.length_append, List.length_append]
      omega
    rw [e1]
    exact q2 r
theorem kk1 {T : Td_} {p se U c : Nat} {fe : Option Nat} {ul : Bool} (hs : se < 256) (hf : ∀ t, fe = some t → t < 10 ∧ t < nT T) (hU0 : U.testBit 0 = false) (hU1 : U.testBit 1 = false) (hU2 : U.testBit 2 = false) (h : At b n p (lnK1 ul fe se)) : cls b n p ≠ 1 ∧ cls b n p ≠ 2 ∧ ∃ k, nxt b n p = .ok k ∧ ∀ r, kk b n T (r + 4) (255, none, false, c) U k = .ok ((se, fe, ul, c), (3, p + (lnK1 ul fe se).length - 1, p + (lnK1 ul fe se).length - 1 + 1)) := by
  unfold lnK1 at h ⊢
  cases ul with
  | false =>
    have h : At b n p (lnK2 fe se) := h
    obtain ⟨a1, a2, k, g1, g2⟩ := kk2 (T := T) (U := U) (c := c) (u := false) hs hf hU0 hU1 h
    exact ⟨a1, a2, k, g1, fun r => g2 (r + 1)⟩
  | true =>
    have h : At b n p ((32 :: w_unlike) ++ lnK2 fe se) := h
    show _ ∧ _ ∧ ∃ k, _ ∧ ∀ r, _ = Except.ok ((se, fe, true, c), (3, p + ((32 :: w_unlike) ++ lnK2 fe se).length - 1, p + ((32 :: w_unlike) ++ lnK2 fe se).length - 1 + 1))
    obtain ⟨h1, h2⟩ := h.app
    obtain ⟨a1, a2, k3, q1, q2⟩ := kk2 (T := T) (U := U ||| 2 ^ 2) (c := c) (u := true) hs hf (by rw [Nat.testBit_or, hU0]; rfl) (by rw [Nat.testBit_or, hU1]; rfl) h2
    obtain ⟨g1, g2⟩ := rd_W1 (w := w_unlike) h1 (by decide) (by decide) a1
    refine ⟨by rw [sp_cl h1]; decide, by rw [sp_cl h1]; decide, _, g1, fun r => ?_⟩
    rw [kk_step (c := 2) rfl g2 (by decide) hU2, show (1, p + 1, p + (32 :: w_unlike).length).2.2 = p + (32 :: w_unlike).length from rfl, q1, bnd_o]
    unfold wth
    rw [if_neg (by decide), if_neg (by decide), if_neg (by decide), bnd_o]
    have e1 : p + ((32 :: w_unlike) ++ lnK2 fe se).length - 1 = p + (32 :: w_unlike).length + (lnK2 fe se).length - 1 := by
      rw [List.length_append]
      omega
    rw [e1]
    exact q2 r
theorem lnK1_pos {ul : Bool} {fe : Option Nat} {se : Nat} : 0 < (lnK1 ul fe se).length := by
  unfold lnK1 lnK2 lnK3
  simp only [List.length_append, List.length_singleton]
  omega
theorem sort_ok {so : Nat} (h : so < 4) : 0 < (w_sort so).length ∧ (∀ y ∈ w_sort so, 97 ≤ y ∧ y ≤ 122) ∧ codeW (w_sort so) = some so := by
  have key : ∀ s, s < 4 → 0 < (w_sort s).length ∧ (∀ y ∈ w_sort s, 97 ≤ y ∧ y ≤ 122) ∧ codeW (w_sort s) = some s := by decide
  exact key so h
theorem rd_kind {T : Td_} {e : Nat} {q : Nat × Nat × Option Nat × Bool × Nat} (hso : q.1 < 4) (hs : q.2.1 < 256) (hf : ∀ t, q.2.2.1 = some t → t < 10 ∧ t < nT T) (hc : q.2.2.2.2 < 10) (hn : nK T < 6) (h : At b n e (lnK q)) : ∃ k, nxt b n e = .ok k ∧ k.1 ≠ 0 ∧ rdLine b n T k = bnd (nxt b n (e + (lnK q).length)) fun q' => .ok (aK T q.1 q.2, q') := by
  obtain ⟨so, se, fe, ul, ch⟩ := q
  unfold lnK at h
  obtain ⟨h1, h2⟩ := h.app
  obtain ⟨h3, h4⟩ := h2.app
  obtain ⟨h5, h6⟩ := h4.app
  obtain ⟨a1, a2, k3, q1, q2⟩ := kk1 (T := T) (U := 0 ||| 2 ^ 3) (c := ch) hs hf (by decide) (by decide) (by decide) h6
  obtain ⟨g1, g2⟩ := rd_W1 (w := w_chance) h3 (by decide) (by decide) (by rw [sp_cl h5]; decide)
  obtain ⟨k1, r1, r2⟩ := rd_N (bd := 10) hc hc h5 a2
  obtain ⟨hw0, hl, hcd⟩ := sort_ok (show so < 4 from hso)
  have h1 : At b n e (w_sort so) := h1
  have hp := lnK1_pos (ul := ul) (fe := fe) (se := se)
  have hlen : e + (lnK (so, se, fe, ul, ch)).length = e + (w_sort so).length + (32 :: w_chance).length + (txN ch).length + (lnK1 ul fe se).length := by
    unfold lnK
    simp only [List.length_append]
    omega
  have hfit := h6.1
  have hfit : e + (w_sort so).length + (32 :: w_chance).length + (txN ch).length + (lnK1 ul fe se).length ≤ n := hfit
  have hch : (32 :: w_chance).length = 7 := rfl
  obtain ⟨r, hr⟩ : ∃ r, n + 1 = r + 4 + 1 := ⟨n - 4, by omega⟩
  have h3' : cls b n (e + (w_sort so).length) = 5 := sp_cl h3
  obtain ⟨f1, f2⟩ := rd_W0 h1 hw0 hl (by rw [h3']; decide)
  refine ⟨_, f1, Nat.one_ne_zero, ?_⟩
  rw [rdLine_is (lcd_is (c := so) rfl f2 hcd (by have : so < 4 := hso; omega))]
  have hb : rdBody b n so T (1, e, e + (w_sort so).length) = .ok (aK T so (se, fe, ul, ch), (3, e + (lnK (so, se, fe, ul, ch)).length - 1, e + (lnK (so, se, fe, ul, ch)).length - 1 + 1)) := by
    unfold rdBody
    rw [if_neg (by omega), if_neg (by omega), if_neg (by omega)]
    unfold rdKind
    rw [if_pos hn, show (1, e, e + (w_sort so).length).2.2 = e + (w_sort so).length from rfl, g1, bnd_o, hr, kk_step (c := 3) rfl g2 (by decide) (by decide), show (1, e + (w_sort so).length + 1, e + (w_sort so).length + (32 :: w_chance).length).2.2 = e + (w_sort so).length + (32 :: w_chance).length from rfl, r1, bnd_o]
    unfold wth
    rw [if_neg (by decide), if_neg (by decide), if_pos rfl, r2, show e + (w_sort so).length + (32 :: w_chance).length + 2 = e + (w_sort so).length + (32 :: w_chance).length + (txN ch).length from rfl, q1, bnd_o, bnd_o, bnd_o]
    show bnd (kk b n T (r + 4) (255, none, false, ch) (0 ||| 2 ^ 3) k3) _ = _
    rw [q2 r, bnd_o, hlen]
  rw [hb, bnd_o, rdEnd_is]
  congr 2
  omega
/-- lines one behind another -/
def rdF (b : Nat → Nat) (n r : Nat) (T : Td_) (e c : Nat) : Pr_ (Td_ × Nat) := bnd (nxt b n e) fun k => rdAll b n r T k c
theorem rdF_step {T T' : Td_} {e e' r c : Nat} (h : ∃ k, nxt b n e = .ok k ∧ k.1 ≠ 0 ∧ rdLine b n T k = bnd (nxt b n e') fun q => .ok (T', q)) : rdF b n (r + 1) T e c = rdF b n r T' e' (c + 1) := by
  obtain ⟨k, h1, h2, h3⟩ := h
  unfold rdF
  rw [h1, bnd_o, rdAll, if_neg h2, h3, bnd_b]
  rfl
theorem rdF_T : ∀ (l : List Nat) (T : Td_) (e r c : Nat), (∀ a ∈ l, a < 256) → nT T + l.length ≤ 8 → At b n e (l.flatMap lnT) → rdF b n (r + l.length) T e c = rdF b n r (T.1 ++ l, T.2) (e + (l.flatMap lnT).length) (c + l.length)
  | [], T, e, r, c, _, _, _ => by
    rw [List.append_nil]
    rfl
  | a :: l, T, e, r, c, h1, h2, h3 => by
    rw [List.flatMap_cons] at h3 ⊢
    obtain ⟨g1, g2⟩ := h3.app
    rw [List.length_cons] at h2 ⊢
    rw [← Nat.add_assoc, rdF_step (rd_thing (h1 a List.mem_cons_self) (by omega) g1), rdF_T l (aT T a) _ r (c + 1) (fun x hx => h1 x (List.mem_cons_of_mem _ hx)) (by show (T.1 ++ [a]).length + l.length ≤ 8; rw [List.length_append, List.length_singleton]; have : nT T = T.1.length := rfl; omega) g2]
    show rdF b n r ((T.1 ++ [a]) ++ l, T.2) _ _ = _
    rw [List.append_assoc, List.length_append, Nat.add_assoc, Nat.add_assoc c, Nat.add_comm 1]
    rfl
theorem rdF_M : ∀ (l : List (Nat × Nat)) (T : Td_) (e r c : Nat), (∀ q ∈ l, q.1 < 256 ∧ q.2 < 256 ∧ q.1 &&& q.2 = 0) → nM T + l.length ≤ 12 → At b n e (l.flatMap lnM) → rdF b n (r + l.length) T e c = rdF b n r (T.1, T.2.1 ++ l, T.2.2) (e + (l.flatMap lnM).length) (c + l.length)
  | [], T, e, r, c, _, _, _ => by
    rw [List.append_nil]
    rfl
  | (x, y) :: l, T, e, r, c, h1, h2, h3 => by
    rw [List.flatMap_cons] at h3 ⊢
    obtain ⟨g1, g2⟩ := h3.app
    rw [List.length_cons] at h2 ⊢
    obtain ⟨a1, a2, a3⟩ := h1 (x, y) List.mem_cons_self
    rw [← Nat.add_assoc, rdF_step (rd_mean a1 a2 a3 (by omega) g1), rdF_M l (aM T x y) _ r (c + 1) (fun x hx => h1 x (List.mem_cons_of_mem _ hx)) (by show (T.2.1 ++ [(x, y)]).length + l.length ≤ 12; rw [List.length_append, List.length_singleton]; have : nM T = T.2.1.length := rfl; omega) g2]
    show rdF b n r (T.1, (T.2.1 ++ [(x, y)]) ++ l, T.2.2) _ _ = _
    rw [List.append_assoc, List.length_append, Nat.add_assoc, Nat.add_assoc c, Nat.add_comm 1]
    rfl
theorem rdF_W : ∀ (l : List Nat) (T : Td_) (e r c : Nat), (∀ v ∈ l, v < 10 ∧ v < nM T) → nS T + l.length ≤ 4 → At b n e (l.flatMap lnW) → rdF b n (r + l.length) T e c = rdF b n r (T.1, T.2.1, T.2.2.1 ++ l, T.2.2.2) (e + (l.flatMap lnW).length) (c + l.length)
  | [], T, e, r, c, _, _, _ => by
    rw [List.append_nil]
    rfl
  | v :: l, T, e, r, c, h1, h2, h3 => by
    rw [List.flatMap_cons] at h3 ⊢
    obtain ⟨g1, g2⟩ := h3.app
    rw [List.length_cons] at h2 ⊢
    obtain ⟨a1, a2⟩ := h1 v List.mem_cons_self
    rw [← Nat.add_assoc, rdF_step (rd_word a1 a2 (by omega) g1), rdF_W l (aS T v) _ r (c + 1) (fun x hx => h1 x (List.mem_cons_of_mem _ hx)) (by show (T.2.2.1 ++ [v]).length + l.length ≤ 4; rw [List.length_append, List.length_singleton]; have : nS T = T.2.2.1.length := rfl; omega) g2]
    show rdF b n r (T.1, T.2.1, (T.2.2.1 ++ [v]) ++ l, T.2.2.2) _ _ = _
    rw [List.append_assoc, List.length_append, Nat.add_assoc, Nat.add_assoc c, Nat.add_comm 1]
    rfl
theorem rdF_K : ∀ (l : List (Nat × Nat × Option Nat × Bool × Nat)) (T : Td_) (e r c : Nat), (∀ q ∈ l, q.1 < 4 ∧ q.2.1 < 256 ∧ (∀ t, q.2.2.1 = some t → t < 10 ∧ t < nT T) ∧ q.2.2.2.2 < 10) → nK T + l.length ≤ 6 → At b n e (l.flatMap lnK) → rdF b n (r + l.length) T e c = rdF b n r (T.1, T.2.1, T.2.2.1, T.2.2.2 ++ l) (e + (l.flatMap lnK).length) (c + l.length)
  | [], T, e, r, c, _, _, _ => by
    rw [List.append_nil]
    rfl
  | q :: l, T, e, r, c, h1, h2, h3 => by
    rw [List.flatMap_cons] at h3 ⊢
    obtain ⟨g1, g2⟩ := h3.app
    rw [List.length_cons] at h2 ⊢
    obtain ⟨a1, a2, a3, a4⟩ := h1 q List.mem_cons_self
    rw [← Nat.add_assoc, rdF_step (rd_kind a1 a2 a3 a4 (by omega) g1), rdF_K l (aK T q.1 q.2) _ r (c + 1) (fun x hx => h1 x (List.mem_cons_of_mem _ hx)) (by show (T.2.2.2 ++ [(q.1, q.2)]).length + l.length ≤ 6; rw [List.length_append, List.length_singleton]; have : nK T = T.2.2.2.length := rfl; omega) g2]
    show rdF b n r (T.1, T.2.1, T.2.2.1, (T.2.2.2 ++ [q]) ++ l) _ _ = _
    rw [List.append_assoc, List.length_append, Nat.add_assoc, Nat.add_assoc c, Nat.add_comm 1]
    rfl
/-- what the law may tell -/
def WL (T : Td_) : Prop := (∀ a ∈ T.1, a < 256) ∧ (∀ q ∈ T.2.1, q.1 < 256 ∧ q.2 < 256 ∧ q.1 &&& q.2 = 0) ∧ (∀ v ∈ T.2.2.1, v < 10 ∧ v < nM T) ∧ (∀ q ∈ T.2.2.2, q.1 < 4 ∧ q.2.1 < 256 ∧ (∀ t, q.2.2.1 = some t → t < 10 ∧ t < nT T) ∧ q.2.2.2.2 < 10) ∧ nT T ≤ 8 ∧ nM T ≤ 12 ∧ nS T ≤ 4 ∧ nK T ≤ 6
theorem fl_len {α : Type} {f : α → List Nat} (h : ∀ a, 0 < (f a).length) : ∀ l : List α, l.length ≤ (l.flatMap f).length
  | [] => Nat.le_refl _
  | a :: l => by
    have := fl_len h l
    have := h a
    rw [List.flatMap_cons, List.length_append, List.length_cons]
    omega
theorem rdText_enc {T : Td_} (hT : WL T) (hn : n = (enc T).length) (h : At b n 0 (enc T)) : rdText b n = .ok (T, nT T + nM T + nS T + nK T) := by
  obtain ⟨t1, t2, t3, t4, c1, c2, c3, c4⟩ := hT
  unfold enc at h hn
  obtain ⟨h1, h⟩ := h.app
  obtain ⟨h2, h⟩ := h.app
  obtain ⟨h3, h4⟩ := h.app
  have l1 := fl_len (f := lnT) (fun a => by unfold lnT; rw [List.length_append]; have : 0 < w_thing.length := (by decide); omega) T.1
  have l2 := fl_len (f := lnM) (fun a => by unfold lnM; rw [List.length_append]; have : 0 < w_means.length := (by decide); omega) T.2.1
  have l3 := fl_len (f := lnW) (fun a => by unfold lnW; rw [List.length_append]; have : 0 < w_word.length := (by decide); omega) T.2.2.1
  have l4 := fl_len (f := lnK) (fun a => by unfold lnK; rw [List.length_append, List.length_append]; have : 0 < (32 :: w_chance).length := (by decide); omega) T.2.2.2
  rw [List.length_append, List.length_append, List.length_append] at hn
  obtain ⟨r, hr⟩ : ∃ r, n + 1 = r + 1 + T.2.2.2.length + T.2.2.1.length + T.2.1.length + T.1.length := ⟨n - (T.2.2.2.length + T.2.2.1.length + T.2.1.length + T.1.length), by omega⟩
  have e0 : rdText b n = rdF b n (n + 1) td0 0 0 := rfl
  have f4 : (T.1, T.2.1, T.2.2.1, T.2.2.2) = T := rfl
  rw [e0, hr, rdF_T _ _ _ _ _ t1 (by show 0 + T.1.length ≤ 8; rw [Nat.zero_add]; exact c1) h1]
  rw [rdF_M _ _ _ _ _ t2 (by show 0 + T.2.1.length ≤ 12; rw [Nat.zero_add]; exact c2) h2]
  rw [rdF_W _ _ _ _ _ (fun v hv => ⟨(t3 v hv).1, by show v < ([] ++ T.2.1).length; rw [List.nil_append]; exact (t3 v hv).2⟩) (by show 0 + T.2.2.1.length ≤ 4; rw [Nat.zero_add]; exact c3) h3]
  rw [rdF_K _ _ _ _ _ (fun q hq => ⟨(t4 q hq).1, (t4 q hq).2.1, fun t ht => ⟨((t4 q hq).2.2.1 t ht).1, by show t < ([] ++ T.1).length; rw [List.nil_append]; exact ((t4 q hq).2.2.1 t ht).2⟩, (t4 q hq).2.2.2⟩) (by show 0 + T.2.2.2.length ≤ 6; rw [Nat.zero_add]; exact c4) h4]
  have e1 : 0 + (T.1.flatMap lnT).length + (T.2.1.flatMap lnM).length + (T.2.2.1.flatMap lnW).length + (T.2.2.2.flatMap lnK).length = n := by omega
  rw [e1]
  unfold rdF
  rw [nx_end, bnd_o, rdAll, if_pos rfl]
  show Except.ok (([] ++ T.1, [] ++ T.2.1, [] ++ T.2.2.1, [] ++ T.2.2.2), 0 + T.1.length + T.2.1.length + T.2.2.1.length + T.2.2.2.length) = _
  simp only [List.nil_append, Nat.zero_add]
  rfl
end
