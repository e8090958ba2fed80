/-! THE MODEL READS A TEXT, 3: letters, numbers. -/
section
variable {b : Nat → Nat} {n : Nat}
/-- what readMarks, readNumber leave -/
def RW (b : Nat → Nat) (O : Mem_) (x : Int32) (r : Pr_ (Nat × Tk_)) : Prop := match r with
  | .ok p => x = nI p.1 ∧ MK b O p.2
  | .error e => ME O e
theorem RW_nxt {O' : Mem_} {v : Nat} {r : Pr_ Tk_} (h : RN b O' r) : RW b O' (nI v) (bnd r fun q => .ok (v, q)) := by
  cases r with
  | error e => exact h
  | ok q => exact ⟨rfl, h⟩
theorem n_marks_e (d : Nat) {O : Mem_} {x1 : Int32} {e : Nat × Nat} (h : ME O e) : ex (d + 2) 136 0 [some (vr 7 0 0), some (vi x1)] [] O = some (nI 0, O) := by
  rw [sX7_readMarks_0, if_neg (n_flt h)]
  have e138 : ex (d + 2) 136 138 [some (vr 7 0 0), none, some (vi (nI 0))] [] O = some (nI 0, O) := by
    rw [sX7_readMarks_138, n_nextT_e d h]; rfl
  rw [sX7_readMarks_40, if_neg (n_flt h), e138, ite_self]
theorem n_number_e (d : Nat) {O : Mem_} {x1 x2 : Int32} {e : Nat × Nat} (h : ME O e) : ∃ x, ex (d + 2) 135 0 [some (vr 7 0 0), some (vi x1), some (vi x2)] [] O = some (x, O) := by
  refine ⟨O 7 0 0 24, ?_⟩
  rw [sX7_readNumber_0, if_neg (n_flt h), sX7_readNumber_25, if_neg (n_flt h), sX7_readNumber_49, n_nextT_e d h]
  rfl
theorem n_lets (d : Nat) (hn : n ≤ 400) (hb : ∀ j, b j < 256) {k : Tk_} {fb : Nat} (hfb : fb < 256) (wk : WTk b n k) (k1 : k.1 = 1) : ∀ (r i a : Nat) (O : Mem_), MTp (O 7 0) (n, b) → MK b O k → i + r = k.2.2 → k.2.1 ≤ i → a < 256 → (∀ v, lets b fb r i a = some v → ex (d + 3) 136 40 [some (vr 7 0 0), some (vi (nI fb)), some (vi (nI a)), some (vi (nI i))] [] O = ex (d + 3) 136 138 [some (vr 7 0 0), none, some (vi (nI v))] [] O) ∧ (lets b fb r i a = none → ∃ x O', ex (d + 3) 136 40 [some (vr 7 0 0), some (vi (nI fb)), some (vi (nI a)), some (vi (nI i))] [] O = some (x, O') ∧ Mx O O' ∧ ME O' (3, k.2.1))
  | 0, i, a, O, h, hk, hi, _, _ => by
    have w2 := wk.2.1
    refine ⟨fun v hv => ?_, fun hv => by cases hv⟩
    cases hv
    refine (sX7_readMarks_40 ..).trans ?_
    rw [hk.1, if_neg (nI_nlt (show k.2.2 ≤ i by omega) (by omega))]
  | r + 1, i, a, O, h, hk, hi, hs, ha => by
    have w1 := wk.1
    have w2 := wk.2.1
    have cb := cls_1 ((wk.2.2.2.2.1 (Or.inl k1) i hs (by omega)).trans k1)
    have st := sX7_readMarks_40 (d + 2) O (nI fb) (nI a) (nI i)
    rw [hk.1, if_pos (nI_lt (show i < k.2.2 by omega) (by omega)), hk.2.2.2.2, if_pos rfl, hk.2.2.1, if_pos (by rw [k1]), n_look (d + 1) hn h (by omega)] at st
    simp only [Option.bind_some] at st
    rw [show lkb b n i = nI (b i) from if_pos (show i < n by omega), pk_sub cb.1, m_in _ _ (nI (b i - 97)) (nI 0) (nI 7) (by decide) (by decide), inI_n (by omega) (by decide) (by decide)] at st
    simp only [Option.bind_some] at st
    -- the letter that fails
    have badl : ex (d + 3) 136 40 [some (vr 7 0 0), some (vi (nI fb)), some (vi (nI a)), some (vi (nI i))] [] O = ex (d + 3) 136 110 [some (vr 7 0 0), some (vi (nI fb)), some (vi (nI a)), some (vi (nI i)), some (vi (nI (b i - 97)))] [vi (nI 0), vr 7 0 0] O → ∃ x O', ex (d + 3) 136 40 [some (vr 7 0 0), some (vi (nI fb)), some (vi (nI a)), some (vi (nI i))] [] O = some (x, O') ∧ Mx O O' ∧ ME O' (3, k.2.1) := fun hs2 => by
      obtain ⟨O', e', f', m', -⟩ := n_needs_f (d + 1) (O := O) (f := 3) hk.2.2.2.2 hk.2.1 (by decide) (by omega)
      have s2 := sX7_readMarks_110 (d + 2) O (nI fb) (nI a) (nI i) (nI (b i - 97)) (nI 0)
      rw [e'] at s2
      simp only [Option.bind_some] at s2
      rw [if_neg (n_flt m')] at s2
      have s3 : ∀ x2 x3, ex (d + 3) 136 40 [some (vr 7 0 0), some (vi (nI fb)), some (vi x2), some (vi x3)] [] O' = some (x2, O') := fun x2 x3 => by
        have e138 : ex (d + 3) 136 138 [some (vr 7 0 0), none, some (vi x2)] [] O' = some (x2, O') := by
          rw [sX7_readMarks_138, n_nextT_e (d + 1) m']; rfl
        refine (sX7_readMarks_40 ..).trans ?_
        rw [if_neg (n_flt m'), e138, ite_self]
      exact ⟨_, O', hs2.trans (s2.trans (s3 _ _)), f', m'⟩
    unfold lets
    by_cases z : b i - 97 < 8
    · rw [decide_eq_true (Nat.zero_le _), decide_eq_true (show b i - 97 ≤ 7 by omega), Bool.and_self, if_neg (show ¬ bI true = nI 0 by decide), q_bitv _ _ (by omega) (by omega), q_bitv _ _ (by omega) (by omega)] at st
      cases y1 : a.testBit (b i - 97) with
      | true =>
        rw [y1, if_neg (show ¬ bI true = nI 0 by decide)] at st
        rw [if_neg (fun q => by have := q.2; rw [Nat.testBit_or, y1, Bool.true_or] at this; cases this)]
        exact ⟨fun v hv => (by cases hv), fun _ => badl st⟩
      | false =>
        rw [y1, if_pos bI_f] at st
        cases y2 : fb.testBit (b i - 97) with
        | true =>
          rw [y2, if_neg (show ¬ bI true = nI 0 by decide)] at st
          rw [if_neg (fun q => by have := q.2; rw [Nat.testBit_or, y2, Bool.or_true] at this; cases this)]
          exact ⟨fun v hv => (by cases hv), fun _ => badl st⟩
        | false =>
          rw [y2, if_pos bI_f] at st
          have hp : (2:Nat) ^ (b i - 97) < 2 ^ 8 := Nat.pow_lt_pow_right (by decide) z
          rw [if_pos ⟨z, by rw [Nat.testBit_or, y1, y2]; rfl⟩]
          have s2 := sX7_readMarks_110 (d + 2) O (nI fb) (nI a) (nI i) (nI (b i - 97)) (nI 1)
          rw [n_needs_t] at s2
          simp only [Option.bind_some] at s2
          rw [hk.2.2.2.2, if_pos rfl, q_shl _ (by omega), q_or, nI_add] at s2
          obtain ⟨i1, i2⟩ := n_lets d hn hb hfb wk k1 r (i + 1) _ O h hk (by omega) (by omega) (Nat.or_lt_two_pow (n := 8) ha hp)
          refine ⟨fun v hv => (st.trans s2).trans (i1 v hv), fun hv => ?_⟩
          obtain ⟨x, O', e', f', m'⟩ := i2 hv
          exact ⟨x, O', (st.trans s2).trans e', f', m'⟩
    · rw [decide_eq_true (Nat.zero_le _), decide_eq_false (show ¬ b i - 97 ≤ 7 by omega), Bool.and_false, if_pos bI_f] at st
      rw [if_neg (fun q => z q.1)]
      exact ⟨fun v hv => (by cases hv), fun _ => badl st⟩
theorem n_readMarks (d : Nat) (hn : n ≤ 400) (hb : ∀ j, b j < 256) {O : Mem_} {k : Tk_} {fb : Nat} (hfb : fb < 256) (h : MTp (O 7 0) (n, b)) (hk : MK b O k) (wk : WTk b n k) : ∃ x O', ex (d + 3) 136 0 [some (vr 7 0 0), some (vi (nI fb))] [] O = some (x, O') ∧ Mx O O' ∧ RW b O' x (tkL b n fb k) := by
  have w1 := wk.1
  have w2 := wk.2.1
  have w3 := wk.2.2.1
  have st := sX7_readMarks_0 (d + 2) O (nI fb)
  rw [hk.2.2.2.2, if_pos rfl, hk.2.2.1] at st
  obtain ⟨O', e, f, r⟩ := n_nextT d hn hb h wk.2.1 hk.1 hk.2.2.2.2
  have fin : ∀ v, ex (d + 3) 136 138 [some (vr 7 0 0), none, some (vi (nI v))] [] O = some (nI v, O') := fun v => by
    rw [sX7_readMarks_138, e]; rfl
  have s29 : ex (d + 3) 136 29 [some (vr 7 0 0), some (vi (nI fb))] [vi (nI 1), vr 7 0 0] O = ex (d + 3) 136 40 [some (vr 7 0 0), some (vi (nI fb)), some (vi (nI 0)), some (vi (nI k.2.1))] [] O := by
    rw [sX7_readMarks_29, n_needs_t]
    simp only [Option.bind_some]
    rw [hk.2.1]
  unfold tkL
  by_cases z1 : k.1 = 1
  · rw [if_pos (by rw [z1])] at st
    rw [if_pos z1]
    obtain ⟨i1, i2⟩ := n_lets d hn hb hfb wk z1 (k.2.2 - k.2.1) k.2.1 0 O h hk (by omega) (Nat.le_refl _) (by decide)
    cases hq : lets b fb (k.2.2 - k.2.1) k.2.1 0 with
    | none =>
      obtain ⟨x, O2, e2, f2, m2⟩ := i2 hq
      exact ⟨x, O2, st.trans (s29.trans e2), f2, m2⟩
    | some v => exact ⟨_, O', st.trans (s29.trans ((i1 v hq).trans (fin v))), f, RW_nxt r⟩
  · rw [if_neg (by rw [nI_eq (by omega) (by decide)]; exact z1)] at st
    rw [if_neg z1]
    by_cases z4 : k.1 = 4
    · rw [if_pos (by rw [z4])] at st
      rw [if_pos z4]
      have l40 : ex (d + 3) 136 40 [some (vr 7 0 0), some (vi (nI fb)), some (vi (nI 0)), some (vi (nI k.2.1))] [] O = ex (d + 3) 136 138 [some (vr 7 0 0), none, some (vi (nI 0))] [] O := by
        refine (sX7_readMarks_40 ..).trans ?_
        rw [hk.2.2.1, if_neg (show ¬ nI k.1 = nI 1 by rw [nI_eq (by omega) (by decide)]; exact z1), ite_self, ite_self]
      exact ⟨_, O', st.trans (s29.trans (l40.trans (fin 0))), f, RW_nxt r⟩
    · rw [if_neg (by rw [nI_eq (by omega) (by decide)]; exact z4)] at st
      rw [if_neg z4]
      obtain ⟨O2, e2, f2, m2, -⟩ := n_needs_f (d + 1) (O := O) (f := 2) hk.2.2.2.2 hk.2.1 (by decide) (by omega)
      have s2 := sX7_readMarks_29 (d + 2) O (nI fb) (nI 0)
      rw [e2] at s2
      simp only [Option.bind_some] at s2
      have s3 : ∀ x2 x3, ex (d + 3) 136 40 [some (vr 7 0 0), some (vi (nI fb)), some (vi x2), some (vi x3)] [] O2 = some (x2, O2) := fun x2 x3 => by
        have e138 : ex (d + 3) 136 138 [some (vr 7 0 0), none, some (vi x2)] [] O2 = some (x2, O2) := by
          rw [sX7_readMarks_138, n_nextT_e (d + 1) m2]; rfl
        refine (sX7_readMarks_40 ..).trans ?_
        rw [if_neg (n_flt m2), e138, ite_self]
      exact ⟨_, O2, st.trans (s2.trans (s3 _ _)), f2, m2⟩
theorem n_readNumber (d : Nat) (hn : n ≤ 400) (hb : ∀ j, b j < 256) {O : Mem_} {k : Tk_} {bd : Nat} {x2 : Int32} (hbd : bd < 256) (hx : x2 = nI bd - nI 1) (h : MTp (O 7 0) (n, b)) (hk : MK b O k) (wk : WTk b n k) : ∃ x O', ex (d + 3) 135 0 [some (vr 7 0 0), some (vi (nI 0)), some (vi x2)] [] O = some (x, O') ∧ Mx O O' ∧ RW b O' x (tkN b n bd k) := by
  have w1 := wk.1
  have w2 := wk.2.1
  have w3 := wk.2.2.1
  have st := sX7_readNumber_0 (d + 2) O (nI 0) x2
  rw [hk.2.2.2.2, if_pos rfl, hk.2.2.1] at st
  obtain ⟨O', e, f, r⟩ := n_nextT d hn hb h wk.2.1 hk.1 hk.2.2.2.2
  unfold tkN
  by_cases z1 : k.1 = 2
  · rw [if_pos (by rw [z1]), n_needs_t] at st
    simp only [Option.bind_some] at st
    rw [if_pos z1]
    have hv := nmv_lt wk z1
    have h24 := hk.2.2.2.1 z1
    have s25 := sX7_readNumber_25 (d + 2) O (nI 0) x2
    rw [hk.2.2.2.2, if_pos rfl, h24, m_in _ _ (nI (nmv b k)) (nI 0) x2 rfl rfl, hx, inI_h _ (by omega), hsI_n (by omega) (by omega)] at s25
    simp only [Option.bind_some] at s25
    rw [← hx] at s25
    by_cases y : nmv b k < bd
    · rw [decide_eq_true y, show bI true = nI 1 from rfl, n_needs_t] at s25
      simp only [Option.bind_some] at s25
      rw [sX7_readNumber_49, h24, e] at s25
      rw [if_pos y]
      exact ⟨_, O', st.trans s25, f, RW_nxt r⟩
    · obtain ⟨O2, e2, f2, m2, -⟩ := n_needs_f (d + 1) (O := O) (f := 3) hk.2.2.2.2 hk.2.1 (by decide) (by omega)
      rw [decide_eq_false y, show bI false = nI 0 from rfl, e2] at s25
      simp only [Option.bind_some] at s25
      rw [sX7_readNumber_49, n_nextT_e (d + 1) m2] at s25
      rw [if_neg y]
      exact ⟨_, O2, st.trans s25, f2, m2⟩
  · rw [if_neg (by rw [nI_eq (by omega) (by decide)]; exact z1)] at st
    rw [if_neg z1]
    obtain ⟨O2, e2, f2, m2, -⟩ := n_needs_f (d + 1) (O := O) (f := 2) hk.2.2.2.2 hk.2.1 (by decide) (by omega)
    rw [e2] at st
    simp only [Option.bind_some] at st
    rw [sX7_readNumber_25, if_neg (n_flt m2), sX7_readNumber_49, n_nextT_e (d + 1) m2] at st
    exact ⟨_, O2, st, f2, m2⟩
theorem RN.cm (d : Nat) (hn : n ≤ 400) (hb : ∀ j, b j < 256) {O : Mem_} {e fb : Nat} (hfb : fb < 256) (h : MTp (O 7 0) (n, b)) (he : e ≤ n) (r : RN b O (nxt b n e)) : ∃ x O', ex (d + 3) 136 0 [some (vr 7 0 0), some (vi (nI fb))] [] O = some (x, O') ∧ Mx O O' ∧ RW b O' x (bnd (nxt b n e) (tkL b n fb)) := by
  cases hq : nxt b n e with
  | error er => rw [hq] at r; exact ⟨_, O, n_marks_e (d + 1) r, Mx.rfl, r⟩
  | ok k => rw [hq] at r; exact n_readMarks d hn hb hfb h r (nxt_ok he hq).1
theorem RN.cn (d : Nat) (hn : n ≤ 400) (hb : ∀ j, b j < 256) {O : Mem_} {e bd : Nat} {x2 : Int32} (hbd : bd < 256) (hx : x2 = nI bd - nI 1) (h : MTp (O 7 0) (n, b)) (he : e ≤ n) (r : RN b O (nxt b n e)) : ∃ x O', ex (d + 3) 135 0 [some (vr 7 0 0), some (vi (nI 0)), some (vi x2)] [] O = some (x, O') ∧ Mx O O' ∧ RW b O' x (bnd (nxt b n e) (tkN b n bd)) := by
  cases hq : nxt b n e with
  | error er =>
    rw [hq] at r
    obtain ⟨x, e1⟩ := n_number_e (d + 1) (x1 := nI 0) (x2 := x2) (show ME O er from r)
    exact ⟨x, O, e1, Mx.rfl, r⟩
  | ok k => rw [hq] at r; exact n_readNumber d hn hb hbd hx h r (nxt_ok he hq).1
end
