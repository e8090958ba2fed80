/-! THE LAW'S TEXT: how it is written, and that it is read as it was meant. -/
/-- letters of a set, those below k -/
def ltp (a : Nat) : Nat → List Nat
  | 0 => []
  | k + 1 => if a.testBit k = true then ltp a k ++ [97 + k] else ltp a k
def txL (a : Nat) : List Nat := 32 :: (if a = 0 then [45] else ltp a 8)
def txN (v : Nat) : List Nat := [32, 48 + v]
def lnT (a : Nat) : List Nat := w_thing ++ (txL a ++ [59])
def lnM (q : Nat × Nat) : List Nat := w_means ++ (txL q.1 ++ ((if q.2 = 0 then [] else (32 :: w_not) ++ txL q.2) ++ [59]))
def lnW (v : Nat) : List Nat := w_word ++ (txN v ++ [59])
def w_sort (so : Nat) : List Nat := if so = 0 then w_plain else if so = 1 then w_last else if so = 2 then w_careful else w_proud
def lnK3 (se : Nat) : List Nat := (if se = 255 then [] else (32 :: w_sees) ++ txL se) ++ [59]
def lnK2 (fe : Option Nat) (se : Nat) : List Nat := (match fe with | none => [] | some t => (32 :: w_fears) ++ txN t) ++ lnK3 se
def lnK1 (ul : Bool) (fe : Option Nat) (se : Nat) : List Nat := (if ul = true then 32 :: w_unlike else []) ++ lnK2 fe se
def lnK (q : Nat × Nat × Option Nat × Bool × Nat) : List Nat := w_sort q.1 ++ ((32 :: w_chance) ++ (txN q.2.2.2.2 ++ lnK1 q.2.2.2.1 q.2.2.1 q.2.1))
def enc (T : Td_) : List Nat := T.1.flatMap lnT ++ (T.2.1.flatMap lnM ++ (T.2.2.1.flatMap lnW ++ T.2.2.2.flatMap lnK))
section
variable {b : Nat → Nat} {n : Nat}
/-- w stands at e -/
def At (b : Nat → Nat) (n e : Nat) (w : List Nat) : Prop := e + w.length ≤ n ∧ ∀ i, i < w.length → b (e + i) = w.getD i 0
theorem At.app {e : Nat} {u v : List Nat} (h : At b n e (u ++ v)) : At b n e u ∧ At b n (e + u.length) v := by
  obtain ⟨h1, h2⟩ := h
  rw [List.length_append] at h1
  refine ⟨⟨by omega, fun i hi => ?_⟩, ⟨by omega, fun i hi => ?_⟩⟩
  · rw [h2 i (by rw [List.length_append]; omega), List.getD_eq_getElem?_getD, List.getElem?_append_left hi, ← List.getD_eq_getElem?_getD]
  · rw [Nat.add_assoc, h2 (u.length + i) (by rw [List.length_append]; omega), List.getD_eq_getElem?_getD, List.getElem?_append_right (by omega), Nat.add_sub_cancel_left, ← List.getD_eq_getElem?_getD]
theorem At.hd {e c : Nat} {l : List Nat} (h : At b n e (c :: l)) : e < n ∧ b e = c ∧ At b n (e + 1) l := by
  obtain ⟨h1, h2⟩ := At.app (u := [c]) h
  obtain ⟨g1, g2⟩ := h1
  exact ⟨g1, g2 0 (by simp), h2⟩
theorem skp_0 {e : Nat} (h : n ≤ e ∨ b e ≠ 32) : skp b n e = e := by
  unfold skp
  rcases h with h | h
  · rw [show n - e = 0 by omega]; rfl
  · cases hk : n - e with
    | zero => rfl
    | succ k =>
      unfold run
      rw [if_neg]
      simp only [Bool.and_eq_true, decide_eq_true_eq, beq_iff_eq]
      exact fun g => h g.2
theorem skp_1 {e : Nat} (he : e < n) (h : b e = 32) : skp b n e = skp b n (e + 1) := by
  unfold skp
  rw [show n - e = (n - (e + 1)) + 1 by omega]
  show (if (decide (e < n) && b e == 32) = true then run _ (n - (e + 1)) (e + 1) else e) = _
  rw [if_pos]
  simp [he, h]
theorem run_to {p : Nat → Bool} : ∀ (m k i : Nat), m ≤ k → (∀ j, i ≤ j → j < i + m → p j = true) → (m < k → p (i + m) = false) → run p k i = i + m
  | 0, 0, i, _, _, _ => rfl
  | 0, k + 1, i, _, _, h => by
    unfold run
    rw [if_neg]
    · rfl
    · have := h (Nat.succ_pos k)
      rw [Nat.add_zero] at this
      rw [this]
      exact Bool.false_ne_true
  | m + 1, 0, i, h, _, _ => absurd h (by omega)
  | m + 1, k + 1, i, h1, h2, h3 => by
    unfold run
    rw [if_pos (h2 i (Nat.le_refl _) (by omega)), run_to m k (i + 1) (by omega) (fun j a c => h2 j (by omega) (by omega)) (fun a => by rw [show i + 1 + m = i + (m + 1) by omega]; exact h3 (by omega))]
    omega
/-- kinds of bytes -/
theorem cl_ltr {i : Nat} (hi : i < n) (h1 : 97 ≤ b i) (h2 : b i ≤ 122) : cls b n i = 1 := by
  unfold cls
  rw [if_pos hi, if_pos ⟨h1, h2⟩]
theorem cl_dig {i : Nat} (hi : i < n) (h1 : 48 ≤ b i) (h2 : b i ≤ 57) : cls b n i = 2 := by
  unfold cls
  rw [if_pos hi, if_neg (by omega), if_pos ⟨h1, h2⟩]
theorem cl_semi {i : Nat} (hi : i < n) (h : b i = 59) : cls b n i = 3 := by
  unfold cls
  rw [if_pos hi, if_neg (by omega), if_neg (by omega), if_pos h]
theorem cl_dash {i : Nat} (hi : i < n) (h : b i = 45) : cls b n i = 4 := by
  unfold cls
  rw [if_pos hi, if_neg (by omega), if_neg (by omega), if_neg (by omega), if_pos h]
theorem cl_sp {i : Nat} (hi : i < n) (h : b i = 32) : cls b n i = 5 := by
  unfold cls
  rw [if_pos hi, if_neg (by omega), if_neg (by omega), if_neg (by omega), if_neg (by omega)]
theorem cl_end {i : Nat} (hi : n ≤ i) : cls b n i = 0 := by
  unfold cls
  rw [if_neg (by omega)]
/-- tokens -/
theorem nx_name {e p : Nat} {w : List Nat} (hp : skp b n e = p) (h : At b n p w) (hw : 0 < w.length) (hl : ∀ c ∈ w, 97 ≤ c ∧ c ≤ 122) (ho : cls b n (p + w.length) ≠ 1) : nxt b n e = .ok (1, p, p + w.length) ∧ wrd b (1, p, p + w.length) = w := by
  have hin : ∀ i, i < w.length → cls b n (p + i) = 1 := fun i hi => by
    have h1 := h.1
    have hb := h.2 i hi
    have hm := hl (w.getD i 0) (by rw [List.getD_eq_getElem?_getD, List.getElem?_eq_getElem hi]; exact List.getElem_mem hi)
    exact cl_ltr (by omega) (by rw [hb]; exact hm.1) (by rw [hb]; exact hm.2)
  have h0 := hin 0 hw
  rw [Nat.add_zero] at h0
  have hs : ste b n p = p + w.length := by
    unfold ste
    have h1 := h.1
    rw [if_neg (by omega), if_pos (Or.inl h0), run_to (w.length - 1) _ _ (by omega)]
    · omega
    · intro j a c
      have := hin (j - p) (by omega)
      rw [show p + (j - p) = j by omega] at this
      rw [this, h0]; rfl
    · intro _
      rw [show p + 1 + (w.length - 1) = p + w.length by omega, h0]
      exact beq_eq_false_iff_ne.mpr ho
  refine ⟨?_, ?_⟩
  · unfold nxt tok
    rw [hp, hs, h0]
    rfl
  · unfold wrd
    show (List.range (p + w.length - p)).map _ = w
    rw [Nat.add_sub_cancel_left]
    apply List.ext_getElem?
    intro i
    by_cases hi : i < w.length
    · rw [List.getElem?_map, List.getElem?_range hi, Option.map_some, List.getElem?_eq_getElem hi]
      have := h.2 i hi
      rw [List.getD_eq_getElem?_getD, List.getElem?_eq_getElem hi] at this
      exact congrArg some this
    · rw [List.getElem?_eq_none (by simp; omega), List.getElem?_eq_none (by omega)]
theorem nx_dig {e p v : Nat} (hp : skp b n e = p) (hi : p < n) (hb : b p = 48 + v) (hv : v < 10) (ho : cls b n (p + 1) ≠ 2) : nxt b n e = .ok (2, p, p + 1) := by
  have h0 : cls b n p = 2 := cl_dig hi (by omega) (by omega)
  have hs : ste b n p = p + 1 := by
    unfold ste
    rw [if_neg (by omega), if_pos (Or.inr h0), run_to 0 _ _ (Nat.zero_le _)]
    · intro j a c; omega
    · intro _
      rw [Nat.add_zero, h0]
      exact beq_eq_false_iff_ne.mpr ho
  unfold nxt tok
  rw [hp, hs, h0, if_neg]
  unfold bad
  simp
theorem nx_semi {e p : Nat} (hp : skp b n e = p) (hi : p < n) (hb : b p = 59) : nxt b n e = .ok (3, p, p + 1) := by
  have h0 : cls b n p = 3 := cl_semi hi hb
  have hs : ste b n p = p + 1 := by
    unfold ste
    rw [if_neg (by omega), if_neg (by omega)]
  unfold nxt tok
  rw [hp, hs, h0]
  rfl
theorem nx_dash {e p : Nat} (hp : skp b n e = p) (hi : p < n) (hb : b p = 45) : nxt b n e = .ok (4, p, p + 1) := by
  have h0 : cls b n p = 4 := cl_dash hi hb
  have hs : ste b n p = p + 1 := by
    unfold ste
    rw [if_neg (by omega), if_neg (by omega)]
  unfold nxt tok
  rw [hp, hs, h0]
  rfl
theorem nx_end : nxt b n n = .ok (0, n, n) := by
  have h0 : cls b n n = 0 := cl_end (Nat.le_refl _)
  have hs : ste b n n = n := by
    unfold ste
    rw [if_pos h0]
  unfold nxt tok
  rw [skp_0 (Or.inl (Nat.le_refl _)), hs, h0]
  rfl
/-- letters -/
theorem ltp_in (a : Nat) : ∀ (k : Nat), ∀ c ∈ ltp a k, 97 ≤ c ∧ c < 97 + k
  | 0, c, h => by cases h
  | k + 1, c, h => by
    unfold ltp at h
    split at h
    · rcases List.mem_append.mp h with h | h
      · have := ltp_in a k c h; omega
      · simp only [List.mem_singleton] at h; omega
    · have := ltp_in a k c h; omega
theorem ltp_len (a : Nat) : ∀ k : Nat, (ltp a k).length ≤ k
  | 0 => Nat.le_refl _
  | k + 1 => by
    have := ltp_len a k
    unfold ltp
    split
    · rw [List.length_append, List.length_singleton]; omega
    · omega
theorem ltp_lo {a : Nat} {j : Nat} : ∀ k : Nat, (∀ i, j ≤ i → a.testBit i = false) → j ≤ k → ltp a k = ltp a j
  | 0, _, hk => by rw [Nat.le_zero.mp hk]
  | k + 1, h, hk => by
    by_cases e : j = k + 1
    · rw [e]
    · have e2 : ltp a (k + 1) = ltp a k := by
        rw [ltp, if_neg (by rw [h k (by omega)]; exact Bool.false_ne_true)]
      rw [e2, ltp_lo k h (by omega)]
theorem mod_s1 {a k : Nat} (h : a.testBit k = true) : a % 2 ^ (k + 1) = 2 ^ k * 1 + a % 2 ^ k := by
  have h1 := Nat.toNat_testBit a k
  rw [h] at h1
  have h1 : 1 = a / 2 ^ k % 2 := h1
  rw [Nat.mod_pow_succ, ← h1, Nat.add_comm]
theorem mod_s0 {a k : Nat} (h : a.testBit k = false) : a % 2 ^ (k + 1) = a % 2 ^ k := by
  have h1 := Nat.toNat_testBit a k
  rw [h] at h1
  have h1 : 0 = a / 2 ^ k % 2 := h1
  rw [Nat.mod_pow_succ, ← h1, Nat.mul_zero, Nat.add_zero]
theorem ltp_pos {a : Nat} : ∀ k : Nat, a % 2 ^ k ≠ 0 → 0 < (ltp a k).length
  | 0, h => absurd (Nat.mod_one a) h
  | k + 1, h => by
    unfold ltp
    by_cases hb : a.testBit k = true
    · rw [if_pos hb, List.length_append, List.length_singleton]; omega
    · rw [if_neg hb]
      refine ltp_pos k fun z => h ?_
      rw [mod_s0 (Bool.eq_false_iff.mpr hb), z]
theorem lets_snoc {fb : Nat} : ∀ (r i acc : Nat), lets b fb (r + 1) i acc = (lets b fb r i acc).bind fun v => if b (i + r) - 97 < 8 ∧ (v ||| fb).testBit (b (i + r) - 97) = false then some (v ||| 2 ^ (b (i + r) - 97)) else none
  | 0, i, acc => rfl
  | r + 1, i, acc => by
    rw [lets]
    conv => rhs; rw [lets]
    split
    · rw [lets_snoc r (i + 1), show i + 1 + r = i + (r + 1) by omega]
    · rfl
theorem lets_ltp {a fb i : Nat} (hf : a &&& fb = 0) : ∀ k : Nat, k ≤ 8 → At b n i (ltp a k) → lets b fb (ltp a k).length i 0 = some (a % 2 ^ k)
  | 0, _, _ => by rw [Nat.pow_zero, Nat.mod_one]; rfl
  | k + 1, hk, h => by
    by_cases hb : a.testBit k = true
    · have e : ltp a (k + 1) = ltp a k ++ [97 + k] := by rw [ltp, if_pos hb]
      rw [e] at h ⊢
      obtain ⟨h1, h2⟩ := h.app
      have hc := h2.hd.2.1
      rw [List.length_append, List.length_singleton, lets_snoc, lets_ltp hf k (by omega) h1, Option.bind_some, hc, Nat.add_sub_cancel_left]
      have hfk : fb.testBit k = false := by
        have := congrArg (fun x => x.testBit k) hf
        simp only [Nat.testBit_and, hb, Bool.true_and, Nat.zero_testBit] at this
        exact this
      rw [if_pos ⟨by omega, by rw [Nat.testBit_or, hfk, Nat.testBit_mod_two_pow, decide_eq_false (Nat.lt_irrefl k)]; rfl⟩]
      congr 1
      rw [mod_s1 hb, Nat.two_pow_add_eq_or_of_lt (Nat.mod_lt _ (Nat.two_pow_pos k)) 1, Nat.mul_one, Nat.or_comm]
    · have e : ltp a (k + 1) = ltp a k := by rw [ltp, if_neg hb]
      rw [e] at h ⊢
      rw [lets_ltp hf k (by omega) h, mod_s0 (Bool.eq_false_iff.mpr hb)]
theorem rd_L {e a fb : Nat} (ha : a < 256) (hf : a &&& fb = 0) (h : At b n e (txL a)) (ho : cls b n (e + (txL a).length) ≠ 1) : ∃ k1, nxt b n e = .ok k1 ∧ tkL b n fb k1 = bnd (nxt b n (e + (txL a).length)) fun q => .ok (a, q) := by
  unfold txL at h ho ⊢
  obtain ⟨he, hb, h1⟩ := h.hd
  by_cases h0 : a = 0
  · rw [if_pos h0] at h1 ho ⊢
    obtain ⟨he1, hb1, -⟩ := h1.hd
    refine ⟨_, nx_dash (p := e + 1) (by rw [skp_1 he hb, skp_0 (Or.inr (by omega))]) he1 hb1, ?_⟩
    rw [h0]
    rfl
  · rw [if_neg h0] at h1 ho ⊢
    have hl := ltp_in a 8
    have hm : a % 2 ^ 8 = a := Nat.mod_eq_of_lt ha
    have hpos := ltp_pos (a := a) 8 (by rw [hm]; exact h0)
    rw [List.length_cons] at ho ⊢
    have hb1 : b (e + 1) ≠ 32 := by
      have := h1.2 0 hpos
      rw [Nat.add_zero] at this
      have hmm := hl ((ltp a 8).getD 0 0) (by rw [List.getD_eq_getElem?_getD, List.getElem?_eq_getElem hpos]; exact List.getElem_mem hpos)
      omega
    obtain ⟨g1, -⟩ := nx_name (e := e) (p := e + 1) (w := ltp a 8) (by rw [skp_1 he hb, skp_0 (Or.inr hb1)]) h1 hpos (fun c hc => ⟨(hl c hc).1, by have := (hl c hc).2; omega⟩) (by rw [show e + 1 + (ltp a 8).length = e + ((ltp a 8).length + 1) by omega]; exact ho)
    refine ⟨_, g1, ?_⟩
    unfold tkL
    rw [if_pos rfl]
    show (match lets b fb (e + 1 + (ltp a 8).length - (e + 1)) (e + 1) 0 with | none => _ | some v => bnd (nxt b n (e + 1 + (ltp a 8).length)) fun q => .ok (v, q)) = _
    rw [Nat.add_sub_cancel_left, lets_ltp hf 8 (Nat.le_refl _) h1, hm, show e + 1 + (ltp a 8).length = e + ((ltp a 8).length + 1) by omega]
theorem rd_N {e v bd : Nat} (hv : v < 10) (hbd : v < bd) (h : At b n e (txN v)) (ho : cls b n (e + 2) ≠ 2) : ∃ k1, nxt b n e = .ok k1 ∧ tkN b n bd k1 = bnd (nxt b n (e + 2)) fun q => .ok (v, q) := by
  obtain ⟨he, hb, h1⟩ := h.hd
  obtain ⟨he1, hb1, -⟩ := h1.hd
  refine ⟨_, nx_dig (p := e + 1) (v := v) (by rw [skp_1 he hb, skp_0 (Or.inr (by omega))]) he1 hb1 hv (by rw [show e + 1 + 1 = e + 2 by omega]; exact ho), ?_⟩
  have hn : nmv b (2, e + 1, e + 1 + 1) = v := by
    unfold nmv
    show nums b (e + 1 + 1 - (e + 1)) (e + 1) 0 = v
    rw [Nat.add_sub_cancel_left]
    simp only [nums]
    rw [hb1]
    omega
  unfold tkN
  rw [if_pos rfl, hn, if_pos hbd]
end
