/-! THE LAW TELLS ITS TEXT: kinds, one by one. -/
section
abbrev Kd_ : Type := Nat × Nat × Option Nat × Bool × Nat
def KOK (a : Nat) (q : Kd_) : Prop := q.1 < 4 ∧ (q.2.1 = 255 ∨ q.2.1 < 16) ∧ (∀ t, q.2.2.1 = some t → t < a) ∧ q.2.2.2.2 < 10
/-- k kinds were told -/
def S4 (L a b c e k : Nat) (l : List Nat) (M : List (Nat × Nat)) (W : List Nat) (K : List Kd_) (O : Mem_) : Prop := R2 a b l M (O 7 0) ∧ W.length = c ∧ (∀ v ∈ W, v < b) ∧ (∀ j, j < c → O 7 0 3 j = nI (W.getD j 0)) ∧ K.length = k ∧ (∀ q ∈ K, KOK a q) ∧ (∀ j, j < k → KR j (K.getD j (0, 0, none, false, 0)).1 (K.getD j (0, 0, none, false, 0)).2.1 (K.getD j (0, 0, none, false, 0)).2.2.1 (K.getD j (0, 0, none, false, 0)).2.2.2.1 (K.getD j (0, 0, none, false, 0)).2.2.2.2 (canL M (K.getD j (0, 0, none, false, 0)).2.1) O) ∧ TQ O (l.flatMap lnT ++ M.flatMap lnM ++ W.flatMap lnW ++ K.flatMap lnK) ∧ Mn (O 7 0) a b c e ∧ O 8 0 1 0 = nI L
theorem lnK3_len {se : Nat} (h : se = 255 ∨ se < 16) : (lnK3 se).length ≤ 11 := by
  unfold lnK3
  rw [List.length_append]
  split
  · exact (by decide : 1 ≤ 11)
  · rename_i e
    have := txL_16 se (by omega)
    have ws : (32 :: w_sees).length = 5 := rfl
    rw [List.length_append, List.length_singleton]
    omega
theorem lnK2_len {fe : Option Nat} {se : Nat} (h : se = 255 ∨ se < 16) : (lnK2 fe se).length ≤ 19 := by
  have := lnK3_len h
  unfold lnK2
  rw [List.length_append]
  cases fe with
  | none => simp only [List.length_nil]; omega
  | some t =>
    have e : ((32 :: w_fears) ++ txN t).length = 8 := rfl
    show ((32 :: w_fears) ++ txN t).length + _ ≤ 19
    omega
theorem lnK_len {a : Nat} {q : Kd_} (h : KOK a q) : (lnK q).length ≤ 42 := by
  have h2 := lnK2_len (fe := q.2.2.1) h.2.1
  have wc : (32 :: w_chance).length = 7 := rfl
  have wu : (32 :: w_unlike).length = 7 := rfl
  have ws : (w_sort q.1).length ≤ 7 := by
    unfold w_sort
    split
    · decide
    · split
      · decide
      · split
        · decide
        · decide
  have h1 : (lnK1 q.2.2.2.1 q.2.2.1 q.2.1).length ≤ 26 := by
    unfold lnK1
    rw [List.length_append]
    split
    · omega
    · simp only [List.length_nil]; omega
  unfold lnK
  rw [List.length_append, List.length_append, List.length_append, txN_len]
  omega
theorem k_636 {O : Mem_} {n k ul : Nat} (r : Int32) (hk : k < 4) : ∃ ch, ch < 10 ∧ ex 10 129 636 [some (vr 6 0 0), some (vr 8 0 0), some (vi (nI 0)), none, some (vr 7 0 2), none, some (vr 7 0 4), some (vr 7 0 5), some (vr 7 0 6), none, none, some (vi (nI n)), some (vi (nI k)), some (vi r), some (vi (nI (6 * k)))] [vi (nI ul), vi (nI (6 * k) + nI 3), vr 7 0 4] O = ex 10 129 665 [some (vr 6 0 0), some (vr 8 0 0), some (vi (nI 0)), none, some (vr 7 0 2), none, some (vr 7 0 4), some (vr 7 0 5), some (vr 7 0 6), none, none, some (vi (nI n)), some (vi (nI k)), none, some (vi (nI (6 * k))), some (vi (nI 0))] [] (up (up (up O 7 0 4 (6 * k + 3) (nI ul)) 7 0 4 (6 * k + 4) (nI ch)) 7 0 4 (6 * k + 5) (nI 0)) := by
  obtain ⟨ch, hch, e1⟩ := low_ok 8 (up O 7 0 4 (6 * k + 3) (nI ul)) (r >>> (nI 17 &&& (31 : Int32))) (n := 10) (by decide) (by decide)
  refine ⟨ch, hch, ?_⟩
  have st := sL_told_636 9 O (nI 0) (nI n) (nI k) r (nI (6 * k)) (nI ul) (nI (6 * k) + nI 3)
  rw [nI_add, nI_add, nI_add, if_pos (ib_n (by omega) (by decide)), nI_clamp (by omega), e1, Option.bind_some, if_pos (ib_n (by omega) (by decide)), if_pos (ib_n (by omega) (by decide)), nI_clamp (by omega), nI_clamp (by omega)] at st
  rw [nI_add]
  exact st
theorem k_614 {O : Mem_} {n k : Nat} (fe : Int32) (r : Int32) (hk : k < 4) : ∃ ul ch, ch < 10 ∧ ex 10 129 614 [some (vr 6 0 0), some (vr 8 0 0), some (vi (nI 0)), none, some (vr 7 0 2), none, some (vr 7 0 4), some (vr 7 0 5), some (vr 7 0 6), none, none, some (vi (nI n)), some (vi (nI k)), some (vi r), some (vi (nI (6 * k)))] [vi fe, vi (nI (6 * k) + nI 2), vr 7 0 4] O = ex 10 129 665 [some (vr 6 0 0), some (vr 8 0 0), some (vi (nI 0)), none, some (vr 7 0 2), none, some (vr 7 0 4), some (vr 7 0 5), some (vr 7 0 6), none, none, some (vi (nI n)), some (vi (nI k)), none, some (vi (nI (6 * k))), some (vi (nI 0))] [] (up (up (up (up O 7 0 4 (6 * k + 2) fe) 7 0 4 (6 * k + 3) (bI ul)) 7 0 4 (6 * k + 4) (nI ch)) 7 0 4 (6 * k + 5) (nI 0)) := by
  have st := sL_told_614 9 O (nI 0) (nI n) (nI k) r (nI (6 * k)) fe (nI (6 * k) + nI 2)
  rw [nI_add (6 * k) 2, if_pos (ib_n (by omega) (by decide)), nI_clamp (by omega)] at st
  rw [nI_add (6 * k) 2]
  by_cases c : (r >>> (nI 15 &&& (31 : Int32))) &&& nI 3 = nI 0
  · rw [if_pos c] at st
    obtain ⟨ch, hch, e1⟩ := k_636 (O := up O 7 0 4 (6 * k + 2) fe) (n := n) (ul := 1) r hk
    exact ⟨true, ch, hch, st.trans e1⟩
  · rw [if_neg c] at st
    obtain ⟨ch, hch, e1⟩ := k_636 (O := up O 7 0 4 (6 * k + 2) fe) (n := n) (ul := 0) r hk
    exact ⟨false, ch, hch, st.trans e1⟩
theorem k_579 {O : Mem_} {a n k se : Nat} (r : Int32) (ha0 : 0 < a) (ha : a ≤ 5) (h5 : O 7 0 5 0 = nI a) (hk : k < 4) : ∃ (fe : Option Nat) (ul : Bool) (ch : Nat), (∀ t, fe = some t → t < a) ∧ ch < 10 ∧ ex 10 129 579 [some (vr 6 0 0), some (vr 8 0 0), some (vi (nI 0)), none, some (vr 7 0 2), none, some (vr 7 0 4), some (vr 7 0 5), some (vr 7 0 6), none, none, some (vi (nI n)), some (vi (nI k)), some (vi r), some (vi (nI (6 * k)))] [vi (nI se), vi (nI (6 * k) + nI 1), vr 7 0 4] O = ex 10 129 665 [some (vr 6 0 0), some (vr 8 0 0), some (vi (nI 0)), none, some (vr 7 0 2), none, some (vr 7 0 4), some (vr 7 0 5), some (vr 7 0 6), none, none, some (vi (nI n)), some (vi (nI k)), none, some (vi (nI (6 * k))), some (vi (nI 0))] [] (up (up (up (up (up O 7 0 4 (6 * k + 1) (nI se)) 7 0 4 (6 * k + 2) (oI fe)) 7 0 4 (6 * k + 3) (bI ul)) 7 0 4 (6 * k + 4) (nI ch)) 7 0 4 (6 * k + 5) (nI 0)) := by
  have st := sL_told_579 9 O (nI 0) (nI n) (nI k) r (nI (6 * k)) (nI se) (nI (6 * k) + nI 1)
  have i0 : (nI 0).toNatClampNeg = 0 := by decide
  rw [nI_add (6 * k) 1, if_pos (ib_n (by omega) (by decide)), nI_clamp (by omega)] at st
  rw [nI_add (6 * k) 1]
  by_cases c : (r >>> (nI 9 &&& (31 : Int32))) &&& nI 7 = nI 0
  · obtain ⟨t, ht, e0⟩ := low_ok 8 (up O 7 0 4 (6 * k + 1) (nI se)) (r >>> (nI 12 &&& (31 : Int32))) ha0 (by omega)
    rw [if_pos c, if_pos (by decide), i0, up_ne (by omega), h5, e0, Option.bind_some] at st
    obtain ⟨ul, ch, hch, e1⟩ := k_614 (O := up O 7 0 4 (6 * k + 1) (nI se)) (n := n) (nI t) r hk
    exact ⟨some t, ul, ch, fun x hx => by cases hx; exact ht, hch, st.trans e1⟩
  · rw [if_neg c] at st
    obtain ⟨ul, ch, hch, e1⟩ := k_614 (O := up O 7 0 4 (6 * k + 1) (nI se)) (n := n) (oI none) r hk
    exact ⟨none, ul, ch, fun x hx => (by cases hx), hch, st.trans e1⟩
theorem k_507 {L a b c e n k : Nat} {O : Mem_} (h31 : L < 2 ^ 31) (hn : 0 < n) (hn16 : n ≤ 16) (ha0 : 0 < a) (ha : a ≤ 5) (he : e ≤ 4) (hk : k < e) (h5 : Mn (O 7 0) a b c e) (h8 : O 8 0 1 0 = nI L) : ∃ q O1, KOK a q ∧ U4 k O O1 ∧ KR k q.1 q.2.1 q.2.2.1 q.2.2.2.1 q.2.2.2.2 0 O1 ∧ ex 10 129 507 [some (vr 6 0 0), some (vr 8 0 0), some (vi (nI 0)), none, some (vr 7 0 2), none, some (vr 7 0 4), some (vr 7 0 5), some (vr 7 0 6), none, none, some (vi (nI (n - 1))), some (vi (nI k))] [] O = ex 10 129 665 [some (vr 6 0 0), some (vr 8 0 0), some (vi (nI 0)), none, some (vr 7 0 2), none, some (vr 7 0 4), some (vr 7 0 5), some (vr 7 0 6), none, none, some (vi (nI (n - 1))), some (vi (nI k)), none, some (vi (nI (6 * k))), some (vi (nI 0))] [] O1 := by
  have hn1 : nI (n - 1) + nI 1 = nI n := by rw [nI_add]; congr 1; omega
  have i3 : (nI 3).toNatClampNeg = 3 := by decide
  obtain ⟨r0, e0⟩ := cell_ok 8 (k := 0 + 9 + k) h8 h31 (by omega)
  obtain ⟨so, hso, e1⟩ := low_ok 8 O r0 (n := 4) (by decide) (by decide)
  have st := sL_told_507 9 O (nI 0) (nI (n - 1)) (nI k)
  rw [if_pos (by decide), i3, h5.2.2.2, if_pos (by rw [nI_ltI (by omega) (by omega)]; exact hk), nI_add, nI_add, e0, Option.bind_some] at st
  simp only [e1, Option.bind_some] at st
  rw [pk_mul, if_pos (ib_n (by omega) (by decide)), nI_clamp (by omega), hn1] at st
  have fin : ∀ se, (se = 255 ∨ se < 16) → ex 10 129 507 [some (vr 6 0 0), some (vr 8 0 0), some (vi (nI 0)), none, some (vr 7 0 2), none, some (vr 7 0 4), some (vr 7 0 5), some (vr 7 0 6), none, none, some (vi (nI (n - 1))), some (vi (nI k))] [] O = ex 10 129 579 [some (vr 6 0 0), some (vr 8 0 0), some (vi (nI 0)), none, some (vr 7 0 2), none, some (vr 7 0 4), some (vr 7 0 5), some (vr 7 0 6), none, none, some (vi (nI (n - 1))), some (vi (nI k)), some (vi r0), some (vi (nI (6 * k)))] [vi (nI se), vi (nI (6 * k) + nI 1), vr 7 0 4] (up O 7 0 4 (6 * k) (nI so)) → (∃ q O1, KOK a q ∧ U4 k O O1 ∧ KR k q.1 q.2.1 q.2.2.1 q.2.2.2.1 q.2.2.2.2 0 O1 ∧ ex 10 129 507 [some (vr 6 0 0), some (vr 8 0 0), some (vi (nI 0)), none, some (vr 7 0 2), none, some (vr 7 0 4), some (vr 7 0 5), some (vr 7 0 6), none, none, some (vi (nI (n - 1))), some (vi (nI k))] [] O = ex 10 129 665 [some (vr 6 0 0), some (vr 8 0 0), some (vi (nI 0)), none, some (vr 7 0 2), none, some (vr 7 0 4), some (vr 7 0 5), some (vr 7 0 6), none, none, some (vi (nI (n - 1))), some (vi (nI k)), none, some (vi (nI (6 * k))), some (vi (nI 0))] [] O1) := fun se hse s1 => by
    obtain ⟨fe, ul, ch, hfe, hch, e3⟩ := k_579 (O := up O 7 0 4 (6 * k) (nI so)) (n := n - 1) (k := k) (se := se) r0 ha0 ha (by rw [up_ne (by omega)]; exact h5.1) (by omega)
    exact ⟨(so, se, fe, ul, ch), _, ⟨hso, hse, hfe, hch⟩, (((((U4.rf.u ⟨by omega, by omega⟩).u ⟨by omega, by omega⟩).u ⟨by omega, by omega⟩).u ⟨by omega, by omega⟩).u ⟨by omega, by omega⟩).u ⟨by omega, by omega⟩, ⟨by simp (disch := omega) only [up_ne, up_eq], by simp (disch := omega) only [up_ne, up_eq], by simp (disch := omega) only [up_ne, up_eq], by simp (disch := omega) only [up_ne, up_eq], by simp (disch := omega) only [up_ne, up_eq], by rw [up_eq]⟩, s1.trans e3⟩
  by_cases c0 : (r0 >>> (nI 2 &&& (31 : Int32))) &&& nI 3 = nI 0
  · obtain ⟨se, hse, e2⟩ := low_ok 8 (up O 7 0 4 (6 * k) (nI so)) (r0 >>> (nI 4 &&& (31 : Int32))) hn (by omega)
    rw [if_pos c0] at st
    simp only [e2, Option.bind_some] at st
    exact fin se (Or.inr (by omega)) st
  · rw [if_neg c0] at st
    exact fin 255 (Or.inl rfl) st
theorem s4_step {L a b c e n k : Nat} {l : List Nat} {M : List (Nat × Nat)} {W : List Nat} {K : List Kd_} {O : Mem_} (h31 : L < 2 ^ 31) (hn : 0 < n) (hn16 : n ≤ 16) (ha0 : 0 < a) (ha : a ≤ 5) (hb : b ≤ 6) (hc : c ≤ 3) (he : e ≤ 4) (hk : k < e) (h : S4 L a b c e k l M W K O) : ∃ q O', S4 L a b c e (k + 1) l M W (K ++ [q]) O' ∧
    ex 10 129 507 [some (vr 6 0 0), some (vr 8 0 0), some (vi (nI 0)), none, some (vr 7 0 2), none, some (vr 7 0 4), some (vr 7 0 5), some (vr 7 0 6), none, none, some (vi (nI (n - 1))), some (vi (nI k))] [] O = ex 10 129 507 [some (vr 6 0 0), some (vr 8 0 0), some (vi (nI 0)), none, some (vr 7 0 2), none, some (vr 7 0 4), some (vr 7 0 5), some (vr 7 0 6), none, none, some (vi (nI (n - 1))), some (vi (nI (k + 1)))] [] O' := by
  obtain ⟨h1, h2, h3, h4, h5, h6, h7, h8, h9, h10⟩ := h
  obtain ⟨q, O1, hq, u1, g1, st1⟩ := k_507 (n := n) h31 hn hn16 ha0 ha he hk h9 h10
  obtain ⟨O2, u2, g2, st2⟩ := c665 (n := n - 1) (a := a) (b := b) (l := l) (M := M) (by omega) hb hq.2.1 (h1.of (u1.2.1 1 (by decide)) (u1.2.1 2 (by decide))) (by rw [u1.2.1 5 (by decide)]; exact h9.2.1) g1
  have c12 : ∀ c, c ≠ 7 → O2 c = O c := fun c z => (u2.1 c z).trans (u1.1 c z)
  have p12 : ∀ p, p ≠ 4 → O2 7 0 p = O 7 0 p := fun p z => (u2.2.1 p z).trans (u1.2.1 p z)
  have j12 : ∀ j, j < 6 * k ∨ 6 * k + 6 ≤ j → O2 7 0 4 j = O 7 0 4 j := fun j z => (u2.2.2 j z).trans (u1.2.2 j z)
  have t2 := h8.fr c12 (p12 6 (by decide))
  have hlen := h1.len
  have hW := fl_le (f := lnW) (b := 7) (P := fun _ => True) (fun a _ => Nat.le_of_eq (lnW_len a)) W (fun _ _ => trivial)
  have hK := fl_le (f := lnK) (b := 42) (P := KOK a) (fun _ => lnK_len) K h6
  have hl0 : (l.flatMap lnT ++ M.flatMap lnM ++ W.flatMap lnW ++ K.flatMap lnK).length ≤ 322 := by
    simp only [List.length_append]
    omega
  have i1 : (nI 1).toNatClampNeg = 1 := by decide
  -- the sort's word
  obtain ⟨v, hv, st3⟩ : ∃ v : Int64, wl v 8 = w_sort q.1 ∧ ex 10 129 665 [some (vr 6 0 0), some (vr 8 0 0), some (vi (nI 0)), none, some (vr 7 0 2), none, some (vr 7 0 4), some (vr 7 0 5), some (vr 7 0 6), none, none, some (vi (nI (n - 1))), some (vi (nI k)), none, some (vi (nI (6 * k))), some (vi (nI b))] [] O2 = ex 10 129 778 [some (vr 6 0 0), some (vr 8 0 0), some (vi (nI 0)), none, some (vr 7 0 2), none, some (vr 7 0 4), some (vr 7 0 5), some (vr 7 0 6), none, none, some (vi (nI (n - 1))), some (vi (nI k)), none, some (vi (nI (6 * k)))] [vl v, vr 7 0 6, vr 6 0 0] O2 := by
    have st := sL_told_665 9 O2 (nI 0) (nI (n - 1)) (nI k) (nI (6 * k)) (nI b)
    have h51 : O2 7 0 5 1 = nI b := by rw [p12 5 (by decide)]; exact h9.2.1
    have q4 := hq.1
    rw [if_pos (by decide), i1, h51, if_neg (by rw [nI_ltI (by omega) (by omega)]; omega), if_pos (ib_n (by omega) (by decide)), nI_clamp (by omega), g2.1] at st
    by_cases s0 : q.1 = 0
    · rw [if_pos (by rw [s0])] at st
      exact ⟨_, by rw [s0]; exact wl_plain, st⟩
    · rw [if_neg (by rw [nI_eq (by omega) (by decide)]; exact s0), if_pos (ib_n (by omega) (by decide))] at st
      by_cases s1 : q.1 = 1
      · rw [if_pos (by rw [s1])] at st
        exact ⟨_, by rw [s1]; exact wl_last, st⟩
      · rw [if_neg (by rw [nI_eq (by omega) (by decide)]; exact s1), if_pos (ib_n (by omega) (by decide))] at st
        by_cases s2 : q.1 = 2
        · rw [if_pos (by rw [s2])] at st
          exact ⟨_, by rw [s2]; exact wl_careful, st⟩
        · rw [if_neg (by rw [nI_eq (by omega) (by decide)]; exact s2)] at st
          have s3 : q.1 = 3 := by omega
          exact ⟨_, by rw [s3]; exact wl_proud, st⟩
  have hwl : (w_sort q.1).length ≤ 7 := by
    unfold w_sort
    split
    · decide
    · split
      · decide
      · split
        · decide
        · decide
  obtain ⟨O3, st4, t3, f3⟩ := c778 (n := n - 1) (by omega) hq.2.1 (fun t ht => by have := hq.2.2.1 t ht; omega) hq.2.2.2 hv hwl g2.2.1 g2.2.2.1 g2.2.2.2.1 g2.2.2.2.2.1 t2 (by omega)
  refine ⟨q, O3, ⟨h1.of ?_ ?_, h2, h3, fun j hj => ?_, by rw [List.length_append, h5]; rfl, fun y hy => ?_, fun j hj => ?_, t3.ap ?_, h9.of ?_, ?_⟩, st1.trans (st2.trans (st3.trans st4))⟩
  · rw [f3.2 1 (by decide), p12 1 (by decide)]
  · rw [f3.2 2 (by decide), p12 2 (by decide)]
  · rw [f3.2 3 (by decide), p12 3 (by decide)]; exact h4 j hj
  · rcases List.mem_append.mp hy with hy | hy
    · exact h6 y hy
    · rw [List.mem_singleton.mp hy]; exact hq
  · unfold KR
    rw [f3.2 4 (by decide)]
    by_cases ej : j = k
    · subst ej
      rw [gd_n h5]
      exact g2
    · rw [gd_old (by omega), j12 _ (by omega), j12 _ (by omega), j12 _ (by omega), j12 _ (by omega), j12 _ (by omega), j12 _ (by omega)]
      exact h7 j (by omega)
  · rw [List.flatMap_append, List.flatMap_cons, List.flatMap_nil, List.append_nil]
    simp only [List.append_assoc]
    rfl
  · rw [f3.2 5 (by decide), p12 5 (by decide)]
  · rw [f3.1 8 (by decide) (by decide), c12 8 (by decide)]
    exact h10
end
