/-! THE MODEL READS A TEXT, 5: lines. -/
section
variable {T : Td_} {b : Nat → Nat} {n : Nat}
theorem n_readKind (d : Nat) (hn : n ≤ 400) (hb : ∀ j, b j < 256) {O : Mem_} {so : Nat} {e : Nat} (h : MTp (O 7 0) (n, b)) (he : e ≤ n) (r : RN b O (nxt b n e)) (hD : MD (O 7 0) T) (hT : WT T) (hK : nK T < 6) : ∃ O', ex (d + 5) 137 0 [some (vr 7 0 0), some (vi (nI so))] [] O = some (nI 0, O') ∧ My O O' ∧ RLm b O' (bnd (nxt b n e) fun k1 => bnd (kk b n T (n + 1) (255, none, false, 1) 0 k1) fun p => .ok (aK T so p.1, p.2)) := by
  have st := sX7_readKind_0 (d + 4) O (nI so)
  rw [hD.1.2.2.2, pk_mul] at st
  cases hq : nxt b n e with
  | error er =>
    rw [hq] at r
    have r : ME O er := r
    refine ⟨O, st.trans ?_, My.rfl, r⟩
    rw [sX7_readKind_21, if_neg (n_flt r), sX7_readKind_163, if_neg (n_flt r)]
  | ok k1 =>
    rw [hq] at r
    obtain ⟨wk1, le1⟩ := nxt_ok he hq
    obtain ⟨O', e', f', r'⟩ := n_kinds d hn hb hT hK (so := so) (n + 1) (255, none, false, 1) 0 k1 O h r wk1 hD (by omega) (by decide) rfl ⟨by decide, (fun t ht => by cases ht), by decide⟩
    refine ⟨O', st.trans e', f', ?_⟩
    show RLm b O' (bnd (kk b n T (n + 1) (255, none, false, 1) 0 k1) _)
    cases hq2 : kk b n T (n + 1) (255, none, false, 1) 0 k1 with
    | error er => rw [hq2] at r'; exact r'
    | ok p => rw [hq2] at r'; exact r'
theorem n_readMeans (d : Nat) (hn : n ≤ 400) (hb : ∀ j, b j < 256) {O : Mem_} {e : Nat} (h : MTp (O 7 0) (n, b)) (he : e ≤ n) (r : RN b O (nxt b n e)) (hD : MD (O 7 0) T) (hT : WT T) (hM : nM T < 12) : ∃ O', ex (d + 5) 138 0 [some (vr 7 0 0)] [] O = some (nI 0, O') ∧ My O O' ∧ RLm b O' (bnd (nxt b n e) fun k1 => bnd (tkL b n 0 k1) fun p => rdNot b n T p.1 p.2) := by
  have st := sX7_readMeans_0 (d + 4) O
  obtain ⟨x, O2, e2, f2, r2⟩ := RN.cm (d + 1) hn hb (fb := 0) (by decide) h he r
  rw [show d + 4 = d + 1 + 3 from rfl, e2] at st
  simp only [Option.bind_some] at st
  have hD2 := hD.mx f2
  have h2 := h.mx f2
  -- the end: the meaning is written
  have fin : ∀ O3 u v k, MD (O3 7 0) T → MK b O3 k → ∃ O4, ex (d + 5) 138 52 [some (vr 7 0 0), some (vi (nI u)), some (vi (nI v))] [] O3 = some (nI 0, O4) ∧ My O3 O4 ∧ MK b O4 k ∧ MD (O4 7 0) (aM T u v) := fun O3 u v k hD3 hk3 => by
    refine ⟨up (up (up O3 7 0 13 (nM T) (nI u)) 7 0 14 (nM T) (nI v)) 7 0 0 11 (nI (nM T + 1)), ?_, ((My.up (by omega)).trans (My.up (by omega))).trans (My.up (by omega)), MK.of hk3 (fun j a c => ?_), hD3.meaning⟩
    · have g1 : (up O3 7 0 13 (nM T) (nI u)) 7 0 0 11 = nI (nM T) := (up_ne (by omega)).trans hD3.1.2.1
      have g2 : (up (up O3 7 0 13 (nM T) (nI u)) 7 0 14 (nM T) (nI v)) 7 0 0 11 = nI (nM T) := (up_ne (by omega)).trans g1
      have hi : ib (nI (nM T)) 12 = true := ib_n hM (by decide)
      have hc : Int32.toNatClampNeg (nI (nM T)) = nM T := nI_clamp (by omega)
      rw [sX7_readMeans_52, hk3.2.2.2.2, if_pos rfl, hD3.1.2.1, hi, if_pos rfl, hc, g1, hi, if_pos rfl, hc, g2, nI_add]
    · simp (disch := omega) only [up_ne]
  have fine : ∀ O3 x1 x2 er, ME O3 er → ex (d + 5) 138 52 [some (vr 7 0 0), some (vi x1), some (vi x2)] [] O3 = some (nI 0, O3) := fun O3 x1 x2 er he => by
    rw [sX7_readMeans_52, if_neg (n_flt he)]
  have er : ∀ q, ME O2 q → ∃ O', ex (d + 5) 138 0 [some (vr 7 0 0)] [] O = some (nI 0, O') ∧ My O O' ∧ ME O' q := fun q hq => by
    rw [if_neg (n_flt hq)] at st
    exact ⟨O2, st.trans (fine O2 _ _ q hq), My.mx f2, hq⟩
  cases hq : nxt b n e with
  | error q => rw [hq] at r2; exact er q r2
  | ok k1 =>
    rw [hq] at r2
    have r2 : RW b O2 x (tkL b n 0 k1) := r2
    obtain ⟨wk1, le1⟩ := nxt_ok he hq
    show ∃ O', _ ∧ _ ∧ RLm b O' (bnd (tkL b n 0 k1) fun p => rdNot b n T p.1 p.2)
    cases hq2 : tkL b n 0 k1 with
    | error q => rw [hq2] at r2; exact er q r2
    | ok p =>
      rw [hq2] at r2
      obtain ⟨hx, hk2⟩ := r2
      obtain ⟨v1, -, wk2, -⟩ := tkL_ok wk1 hq2
      have w1 := wk2.1
      have w2 := wk2.2.1
      have w3 := wk2.2.2.1
      show ∃ O', _ ∧ _ ∧ RLm b O' (rdNot b n T p.1 p.2)
      unfold rdNot
      rw [hk2.2.2.2.2, if_pos rfl, hk2.2.2.1, hx] at st
      by_cases z1 : p.2.1 = 1
      · have hcw : codeW (wrd b p.2) = codeK b p.2 := by unfold codeK; rw [if_pos z1]
        rw [if_pos (by rw [z1]), show d + 1 + 3 = d + 4 from rfl, n_nameNow d hn hb h2 hk2 wk2, hcw] at st
        simp only [Option.bind_some] at st
        rw [if_pos z1]
        have q13 : (oI (codeK b p.2) = nI 13) ↔ codeK b p.2 = some 13 := by
          cases hc : codeK b p.2 with
          | none => exact ⟨fun q => absurd q (by decide), fun q => by cases q⟩
          | some c =>
            have := codeK_lt c hc
            show nI c = nI 13 ↔ _
            rw [nI_eq (by omega) (by decide)]
            exact ⟨fun q => by rw [q], fun q => by cases q; rfl⟩
        by_cases y : codeK b p.2 = some 13
        · rw [if_pos (q13.mpr y)] at st
          rw [if_pos y]
          have s38 := sX7_readMeans_38 (d + 4) O2 (nI p.1) (nI 1)
          rw [n_needs_t] at s38
          simp only [Option.bind_some] at s38
          obtain ⟨O3, e3, f3, r3⟩ := n_nextT (d + 2) hn hb h2 wk2.2.1 hk2.1 hk2.2.2.2.2
          have h3 := h2.mx f3
          have hD3 := hD2.mx f3
          obtain ⟨x2, O4, e4, f4, r4⟩ := RN.cm (d + 1) hn hb (fb := p.1) v1 h3 wk2.2.1 r3
          rw [show d + 4 = d + 2 + 2 from rfl, e3] at s38
          simp only [Option.bind_some] at s38
          rw [show d + 2 + 2 = d + 1 + 3 from rfl, e4] at s38
          simp only [Option.bind_some] at s38
          have F4 : My O O4 := My.mx ((f2.trans f3).trans f4)
          cases hq3 : nxt b n p.2.2.2 with
          | error q => rw [hq3] at r4; exact ⟨O4, st.trans (s38.trans (fine O4 _ _ q r4)), F4, r4⟩
          | ok k3 =>
            rw [hq3] at r4
            have r4 : RW b O4 x2 (tkL b n p.1 k3) := r4
            show ∃ O', _ ∧ _ ∧ RLm b O' (bnd (tkL b n p.1 k3) fun q => .ok (aM T p.1 q.1, q.2))
            cases hq4 : tkL b n p.1 k3 with
            | error q => rw [hq4] at r4; exact ⟨O4, st.trans (s38.trans (fine O4 _ _ q r4)), F4, r4⟩
            | ok q =>
              rw [hq4] at r4
              obtain ⟨O5, e5, f5, k5, m5⟩ := fin O4 p.1 q.1 q.2 (hD3.mx f4) r4.2
              rw [r4.1] at s38
              exact ⟨O5, st.trans (s38.trans e5), F4.trans f5, k5, m5⟩
        · rw [if_neg (fun q => y (q13.mp q))] at st
          rw [if_neg y]
          obtain ⟨O3, e3, f3, m3, -⟩ := n_needs_f (d + 3) (O := O2) (f := 2) hk2.2.2.2.2 hk2.2.1 (by decide) (by omega)
          have s38 := sX7_readMeans_38 (d + 4) O2 (nI p.1) (nI 0)
          rw [show d + 4 = d + 3 + 1 from rfl, e3] at s38
          simp only [Option.bind_some] at s38
          rw [n_nextT_e (d + 3) m3] at s38
          simp only [Option.bind_some] at s38
          rw [show d + 3 + 1 = d + 2 + 2 from rfl, n_marks_e (d + 2) m3] at s38
          exact ⟨O3, st.trans (s38.trans (fine O3 _ _ _ m3)), My.mx (f2.trans f3), m3⟩
      · rw [if_neg (by rw [nI_eq (by omega) (by decide)]; exact z1)] at st
        rw [if_neg z1]
        obtain ⟨O5, e5, f5, k5, m5⟩ := fin O2 p.1 0 p.2 hD2 hk2
        exact ⟨O5, st.trans e5, (My.mx f2).trans f5, k5, m5⟩
theorem n_line_e (d : Nat) {O : Mem_} {e : Nat × Nat} (he : ME O e) {x1 : Int32} : (∀ y0, ex (d + 2) 139 155 [some (vr 7 0 0), some (vi x1)] [vi y0, vr 7 0 0] O = some (nI 0, O)) ∧ (∀ y0, ex (d + 2) 139 124 [some (vr 7 0 0), some (vi x1)] [vi y0, vr 7 0 0] O = some (nI 0, O)) ∧ (∀ y0, ex (d + 2) 139 100 [some (vr 7 0 0), some (vi x1)] [vi y0, vr 7 0 0] O = some (nI 0, O)) ∧ (∀ y0, ex (d + 2) 139 75 [some (vr 7 0 0), some (vi x1)] [vi y0, vr 7 0 0] O = some (nI 0, O)) := by
  have a1 : ∀ y0, ex (d + 2) 139 155 [some (vr 7 0 0), some (vi x1)] [vi y0, vr 7 0 0] O = some (nI 0, O) := fun y0 => by
    rw [sX7_readLine_155, n_needs_e d he]
    simp only [Option.bind_some]
    rw [n_nextT_e d he]
    simp only [Option.bind_some]
    rw [if_pos (n_fgt he)]
  have a2 : ∀ y0, ex (d + 2) 139 124 [some (vr 7 0 0), some (vi x1)] [vi y0, vr 7 0 0] O = some (nI 0, O) := fun y0 => by
    rw [sX7_readLine_124, n_needs_e d he]
    simp only [Option.bind_some]
    rw [m_in _ _ x1 (nI 0) (nI 3) (by decide) (by decide)]
    simp only [Option.bind_some]
    rw [a1, a1, ite_self, ite_self]
  have a3 : ∀ y0, ex (d + 2) 139 100 [some (vr 7 0 0), some (vi x1)] [vi y0, vr 7 0 0] O = some (nI 0, O) := fun y0 => by
    rw [sX7_readLine_100, n_needs_e d he]
    simp only [Option.bind_some]
    rw [a2, a2, ite_self, ite_self]
  refine ⟨a1, a2, a3, fun y0 => ?_⟩
  rw [sX7_readLine_75, n_needs_e d he]
  simp only [Option.bind_some]
  rw [a3, a3, ite_self, ite_self]
theorem n_lineEnd (d : Nat) (hn : n ≤ 400) (hb : ∀ j, b j < 256) {O : Mem_} {r : Pr_ (Td_ × Tk_)} (h : MTp (O 7 0) (n, b)) (hr : RLm b O r) (hw : ∀ p, r = .ok p → WTk b n p.2) : ∃ O', ex (d + 3) 139 279 [some (vr 7 0 0)] [] O = some (nI 0, O') ∧ My O O' ∧ RLm b O' (bnd r (rdEnd b n)) := by
  have st := sX7_readLine_279 (d + 2) O
  cases r with
  | error e =>
    have hr : ME O e := hr
    rw [if_neg (n_flt hr), n_nextT_e (d + 1) hr] at st
    exact ⟨O, st, My.rfl, hr⟩
  | ok p =>
    obtain ⟨hk, hD⟩ := hr
    have wk := hw p rfl
    have w1 := wk.1
    have w2 := wk.2.1
    have w3 := wk.2.2.1
    rw [hk.2.2.2.2, if_pos rfl, hk.2.2.1] at st
    show ∃ O', _ ∧ _ ∧ RLm b O' (rdEnd b n p)
    unfold rdEnd
    by_cases z : p.2.1 = 3
    · rw [if_pos (by rw [z]), sX7_readLine_300, n_needs_t] at st
      simp only [Option.bind_some] at st
      rw [if_pos z]
      obtain ⟨O1, e1, f1, r1⟩ := n_nextT d hn hb h wk.2.1 hk.1 hk.2.2.2.2
      rw [e1] at st
      refine ⟨O1, st, My.mx f1, ?_⟩
      cases hq : nxt b n p.2.2.2 with
      | error e => rw [hq] at r1; exact r1
      | ok k1 => rw [hq] at r1; exact ⟨r1, hD.mx f1⟩
    · rw [if_neg (by rw [nI_eq (by omega) (by decide)]; exact z), sX7_readLine_300] at st
      rw [if_neg z]
      obtain ⟨O2, e2, f2, m2, -⟩ := n_needs_f (d + 1) (O := O) (f := 2) hk.2.2.2.2 hk.2.1 (by decide) (by omega)
      rw [e2] at st
      simp only [Option.bind_some] at st
      rw [n_nextT_e (d + 1) m2] at st
      exact ⟨O2, st, My.mx f2, m2⟩
/-- is there room for a line's telling -/
def rom (T : Td_) (c : Nat) : Prop := (c = 10 → nT T < 8) ∧ (c = 11 → nM T < 12) ∧ (c = 12 → nS T < 4) ∧ (c ≤ 3 → nK T < 6)
theorem n_linePre (d : Nat) {O : Mem_} {k : Tk_} {c : Nat} (hk : MK b O k) (hs : k.2.1 ≤ 400) (hc : c ≤ 3 ∨ c = 10 ∨ c = 11 ∨ c = 12) (hD : MD (O 7 0) T) (hT : WT T) : (rom T c → ex (d + 3) 139 50 [some (vr 7 0 0), some (vi (nI c))] [vi (nI 1), vr 7 0 0] O = ex (d + 3) 139 155 [some (vr 7 0 0), some (vi (nI c))] [vi (nI 1), vr 7 0 0] O) ∧ (¬ rom T c → ∃ O', ex (d + 3) 139 50 [some (vr 7 0 0), some (vi (nI c))] [vi (nI 1), vr 7 0 0] O = some (nI 0, O') ∧ Mx O O' ∧ ME O' (5, k.2.1)) := by
  have h8 := hT.1
  have h12 := hT.2.1
  have h4 := hT.2.2.1
  have h6 := hT.2.2.2.1
  obtain ⟨O', e', f', m', -⟩ := n_needs_f (d + 1) (O := O) (f := 5) hk.2.2.2.2 hk.2.1 (by decide) hs
  obtain ⟨-, b2, b3, b4⟩ := n_line_e (d + 1) m' (x1 := nI c)
  have b1 := (n_line_e (d + 1) m' (x1 := nI c)).1
  have c10 : (nI c = nI 10) ↔ c = 10 := nI_eq (by omega) (by decide)
  have c11 : (nI c = nI 11) ↔ c = 11 := nI_eq (by omega) (by decide)
  have c12 : (nI c = nI 12) ↔ c = 12 := nI_eq (by omega) (by decide)
  have s50 := sX7_readLine_50 (d + 2) O (nI c) (nI 1)
  rw [n_needs_t] at s50
  simp only [Option.bind_some] at s50
  have s75 := fun y => sX7_readLine_75 (d + 2) O (nI c) y
  have s100 := fun y => sX7_readLine_100 (d + 2) O (nI c) y
  have s124 := fun y => sX7_readLine_124 (d + 2) O (nI c) y
  have s155 := fun y => sX7_readLine_155 (d + 2) O (nI c) y
  have t75 := s75 (nI 1)
  have t100 := s100 (nI 1)
  have t124 := s124 (nI 1)
  rw [n_needs_t] at t75 t100 t124
  simp only [Option.bind_some] at t75 t100 t124
  rw [m_in _ _ (nI c) (nI 0) (nI 3) (by decide) (by decide), inI_n (by omega) (by decide) (by decide), decide_eq_true (Nat.zero_le c), Bool.true_and] at t124
  simp only [Option.bind_some] at t124
  -- where there is no room
  have f75 : ex (d + 3) 139 75 [some (vr 7 0 0), some (vi (nI c))] [vi (nI 0), vr 7 0 0] O = some (nI 0, O') := by
    refine (s75 _).trans ?_
    rw [e']
    simp only [Option.bind_some]
    rw [b3, b3, ite_self, ite_self]
  have f100 : ex (d + 3) 139 100 [some (vr 7 0 0), some (vi (nI c))] [vi (nI 0), vr 7 0 0] O = some (nI 0, O') := by
    refine (s100 _).trans ?_
    rw [e']
    simp only [Option.bind_some]
    rw [b2, b2, ite_self, ite_self]
  have f124 : ex (d + 3) 139 124 [some (vr 7 0 0), some (vi (nI c))] [vi (nI 0), vr 7 0 0] O = some (nI 0, O') := by
    refine (s124 _).trans ?_
    rw [e']
    simp only [Option.bind_some]
    rw [m_in _ _ (nI c) (nI 0) (nI 3) (by decide) (by decide)]
    simp only [Option.bind_some]
    rw [b1, b1, ite_self, ite_self]
  have f155 : ex (d + 3) 139 155 [some (vr 7 0 0), some (vi (nI c))] [vi (nI 0), vr 7 0 0] O = some (nI 0, O') := by
    refine (s155 _).trans ?_
    rw [e']
    simp only [Option.bind_some]
    rw [n_nextT_e (d + 1) m']
    simp only [Option.bind_some]
    rw [if_pos (n_fgt m')]
  have res : ex (d + 3) 139 50 [some (vr 7 0 0), some (vi (nI c))] [vi (nI 1), vr 7 0 0] O = some (nI 0, O') → ∃ O', ex (d + 3) 139 50 [some (vr 7 0 0), some (vi (nI c))] [vi (nI 1), vr 7 0 0] O = some (nI 0, O') ∧ Mx O O' ∧ ME O' (5, k.2.1) := fun q => ⟨O', q, f', m'⟩
  rw [hD.1.1] at s50
  rw [hD.1.2.1] at t75
  rw [hD.1.2.2.1] at t100
  rw [hD.1.2.2.2] at t124
  rcases hc with hc | rfl | rfl | rfl
  · rw [if_neg (fun q => by have := c10.mp q; omega)] at s50
    rw [if_neg (fun q => by have := c11.mp q; omega)] at t75
    rw [if_neg (fun q => by have := c12.mp q; omega)] at t100
    rw [decide_eq_true hc, if_neg (show ¬ bI true = nI 0 by decide)] at t124
    have pre := s50.trans (t75.trans t100)
    by_cases z : nK T < 6
    · rw [if_pos (nI_lt z (by decide))] at t124
      exact ⟨fun _ => pre.trans t124, fun q => absurd (⟨fun q => by omega, fun q => by omega, fun q => by omega, fun _ => z⟩ : rom T c) q⟩
    · rw [if_neg (nI_nlt (show 6 ≤ nK T by omega) (by omega))] at t124
      exact ⟨fun q => absurd (q.2.2.2 hc) z, fun _ => res (pre.trans (t124.trans f155))⟩
  · rw [if_pos rfl] at s50
    rw [if_neg (by decide)] at t75
    rw [if_neg (by decide)] at t100
    rw [show decide (10 ≤ 3) = false from rfl, if_pos bI_f] at t124
    by_cases z : nT T < 8
    · rw [if_pos (nI_lt z (by decide))] at s50
      exact ⟨fun _ => s50.trans (t75.trans (t100.trans t124)), fun q => absurd (⟨fun _ => z, fun q => by omega, fun q => by omega, fun q => by omega⟩ : rom T 10) q⟩
    · rw [if_neg (nI_nlt (show 8 ≤ nT T by omega) (by omega))] at s50
      exact ⟨fun q => absurd (q.1 rfl) z, fun _ => res (s50.trans f75)⟩
  · rw [if_neg (by decide)] at s50
    rw [if_pos rfl] at t75
    rw [if_neg (by decide)] at t100
    rw [show decide (11 ≤ 3) = false from rfl, if_pos bI_f] at t124
    by_cases z : nM T < 12
    · rw [if_pos (nI_lt z (by decide))] at t75
      exact ⟨fun _ => s50.trans (t75.trans (t100.trans t124)), fun q => absurd (⟨fun q => by omega, fun _ => z, fun q => by omega, fun q => by omega⟩ : rom T 11) q⟩
    · rw [if_neg (nI_nlt (show 12 ≤ nM T by omega) (by omega))] at t75
      exact ⟨fun q => absurd (q.2.1 rfl) z, fun _ => res (s50.trans (t75.trans f100))⟩
  · rw [if_neg (by decide)] at s50
    rw [if_neg (by decide)] at t75
    rw [if_pos rfl] at t100
    rw [show decide (12 ≤ 3) = false from rfl, if_pos bI_f] at t124
    by_cases z : nS T < 4
    · rw [if_pos (nI_lt z (by decide))] at t100
      exact ⟨fun _ => s50.trans (t75.trans (t100.trans t124)), fun q => absurd (⟨fun q => by omega, fun q => by omega, fun _ => z, fun q => by omega⟩ : rom T 12) q⟩
    · rw [if_neg (nI_nlt (show 4 ≤ nS T by omega) (by omega))] at t100
      exact ⟨fun q => absurd (q.2.2.1 rfl) z, fun _ => res (s50.trans (t75.trans (t100.trans f124)))⟩
theorem n_readLine (d : Nat) (hn : n ≤ 400) (hb : ∀ j, b j < 256) {O : Mem_} {k : Tk_} (h : MTp (O 7 0) (n, b)) (hk : MK b O k) (wk : WTk b n k) (hD : MD (O 7 0) T) (hT : WT T) : ∃ O', ex (d + 6) 139 0 [some (vr 7 0 0)] [] O = some (nI 0, O') ∧ My O O' ∧ RLm b O' (rdLine b n T k) := by
  have w1 := wk.1
  have w2 := wk.2.1
  have w3 := wk.2.2.1
  have h8 := hT.1
  have h12 := hT.2.1
  have h4 := hT.2.2.1
  have h6 := hT.2.2.2.1
  have st : ex (d + 6) 139 0 [some (vr 7 0 0)] [] O = ex (d + 6) 139 17 [some (vr 7 0 0)] [vi (oI (codeK b k))] O := by
    rw [sX7_readLine_0, hk.2.2.1]
    unfold codeK
    by_cases z1 : k.1 = 1
    · rw [if_pos (by rw [z1]), if_pos z1, show d + 5 = d + 1 + 4 from rfl, n_nameNow (d + 1) hn hb h hk wk]
      rfl
    · rw [if_neg (by rw [nI_eq (by omega) (by decide)]; exact z1), if_neg z1]
  have s17 := sX7_readLine_17 (d + 5) O (oI (codeK b k))
  rw [m_in _ _ (oI (codeK b k)) (nI 0) (nI 3) (by decide) (by decide)] at s17
  simp only [Option.bind_some] at s17
  rw [m_in _ _ (oI (codeK b k)) (nI 10) (nI 12) (by decide) (by decide)] at s17
  simp only [Option.bind_some] at s17
  unfold rdLine
  cases hl : lcd b k with
  | none =>
    have n1 : inI (oI (codeK b k)) (nI 0) (nI 3) = false ∧ inI (oI (codeK b k)) (nI 10) (nI 12) = false := by
      cases hq : codeK b k with
      | none => decide
      | some c =>
        unfold lcd at hl
        rw [hq] at hl
        have hl : (if c ≤ 12 then some c else none) = none := hl
        have hc := codeK_lt c hq
        have : ¬ c ≤ 12 := fun q => by rw [if_pos q] at hl; cases hl
        show inI (nI c) (nI 0) (nI 3) = false ∧ inI (nI c) (nI 10) (nI 12) = false
        rw [inI_n (by omega) (by decide) (by decide), inI_n (by omega) (by decide) (by decide), decide_eq_false (show ¬ c ≤ 3 by omega), decide_eq_false (show ¬ c ≤ 12 by omega), Bool.and_false, Bool.and_false]
        exact ⟨rfl, rfl⟩
    rw [n1.1, n1.2, if_pos bI_f, if_pos bI_f] at s17
    obtain ⟨O2, e2, f2, m2, -⟩ := n_needs_f (d + 4) (O := O) (f := 2) hk.2.2.2.2 hk.2.1 (by decide) (by omega)
    have s50 := sX7_readLine_50 (d + 5) O (oI (codeK b k)) (nI 0)
    rw [show d + 5 = d + 4 + 1 from rfl, e2] at s50
    simp only [Option.bind_some] at s50
    obtain ⟨-, -, -, b4⟩ := n_line_e (d + 4) m2 (x1 := oI (codeK b k))
    rw [show d + 4 + 1 + 1 = d + 4 + 2 from rfl, b4, b4, ite_self, ite_self] at s50
    exact ⟨O2, st.trans (s17.trans s50), My.mx f2, m2⟩
  | some c =>
    obtain ⟨hc, hck, z1⟩ := lcd_of hl
    have n1 : (inI (nI c) (nI 0) (nI 3) || inI (nI c) (nI 10) (nI 12)) = true := by
      rw [inI_n (by omega) (by decide) (by decide), inI_n (by omega) (by decide) (by decide)]
      rcases hc with hc | rfl | rfl | rfl
      · rw [decide_eq_true (Nat.zero_le c), decide_eq_true hc]; rfl
      · decide
      · decide
      · decide
    rw [hck] at st s17
    have s17 : ex (d + 6) 139 17 [some (vr 7 0 0)] [vi (oI (some c))] O = ex (d + 6) 139 50 [some (vr 7 0 0), some (vi (nI c))] [vi (nI 1), vr 7 0 0] O := by
      refine s17.trans ?_
      show (if bI (inI (nI c) (nI 0) (nI 3)) = nI 0 then if bI (inI (nI c) (nI 10) (nI 12)) = nI 0 then _ else _ else _) = _
      cases ha : inI (nI c) (nI 0) (nI 3) with
      | true => rw [if_neg (show ¬ bI true = nI 0 by decide)]; rfl
      | false =>
        rw [ha, Bool.false_or] at n1
        rw [if_pos bI_f, n1, if_neg (show ¬ bI true = nI 0 by decide)]; rfl
    obtain ⟨p1, p2⟩ := n_linePre (d + 3) hk (by omega) hc hD hT
    have pre := st.trans s17
    show ∃ O', _ ∧ _ ∧ RLm b O' (bnd (rdBody b n c T k) (rdEnd b n))
    by_cases hrom : rom T c
    · have pre := pre.trans (p1 hrom)
      have s155 := sX7_readLine_155 (d + 5) O (nI c) (nI 1)
      rw [n_needs_t] at s155
      simp only [Option.bind_some] at s155
      obtain ⟨O1, e1, f1, r1⟩ := n_nextT (d + 3) hn hb h wk.2.1 hk.1 hk.2.2.2.2
      have h1 := h.mx f1
      have hD1 := hD.mx f1
      rw [show d + 5 = d + 3 + 2 from rfl, e1] at s155
      simp only [Option.bind_some] at s155
      have pre := pre.trans s155
      -- the next token is bad
      cases hq : nxt b n k.2.2 with
      | error e =>
        rw [hq] at r1
        have r1 : ME O1 e := r1
        rw [if_pos (n_fgt r1)] at pre
        have hbd : rdBody b n c T k = .error e := by
          unfold rdBody
          rcases hc with hc | rfl | rfl | rfl
          · rw [if_neg (by omega), if_neg (by omega), if_neg (by omega)]
            unfold rdKind
            rw [if_pos (hrom.2.2.2 hc), hq]; rfl
          · rw [if_pos rfl]; unfold rdThing; rw [if_pos (hrom.1 rfl), hq]; rfl
          · rw [if_neg (by decide), if_pos rfl]; unfold rdMean; rw [if_pos (hrom.2.1 rfl), hq]; rfl
          · rw [if_neg (by decide), if_neg (by decide), if_pos rfl]; unfold rdWord; rw [if_pos (hrom.2.2.1 rfl), hq]; rfl
        rw [hbd]
        exact ⟨O1, pre, My.mx f1, r1⟩
      | ok k1 =>
        rw [hq] at r1
        have r1k : MK b O1 k1 := r1
        have r1' : RN b O1 (nxt b n k.2.2) := by rw [hq]; exact r1
        obtain ⟨wk1, le1⟩ := nxt_ok wk.2.1 hq
        rw [r1k.2.2.2.2, if_neg (by decide)] at pre
        -- a body, and the line's end
        have fin : ∀ (r : Pr_ (Td_ × Tk_)) O2, My O O2 → RLm b O2 r → (∀ p, r = .ok p → WTk b n p.2) → ex (d + 6) 139 0 [some (vr 7 0 0)] [] O = ex (d + 6) 139 279 [some (vr 7 0 0)] [] O2 → rdBody b n c T k = r → ∃ O', ex (d + 6) 139 0 [some (vr 7 0 0)] [] O = some (nI 0, O') ∧ My O O' ∧ RLm b O' (bnd (rdBody b n c T k) (rdEnd b n)) := fun r O2 hF hr hw hs hq2 => by
          obtain ⟨O3, e3, f3, r3⟩ := n_lineEnd (d + 3) hn hb (h.my hF) hr hw
          rw [hq2]
          exact ⟨O3, hs.trans e3, hF.trans f3, r3⟩
        have wfin : ∀ p, rdBody b n c T k = .ok p → WTk b n p.2 := fun p hp => (rdBody_ok hT wk hc hp).2.1
        rcases hc with hc | rfl | rfl | rfl
        · have q10 : ¬ nI c = nI 10 := by rw [nI_eq (by omega) (by decide)]; omega
          have q11 : ¬ nI c = nI 11 := by rw [nI_eq (by omega) (by decide)]; omega
          have q12 : ¬ nI c = nI 12 := by rw [nI_eq (by omega) (by decide)]; omega
          rw [if_neg q10, if_neg q11, if_neg q12] at pre
          obtain ⟨O2, e2, f2, r2⟩ := n_readKind d hn hb (so := c) h1 wk.2.1 r1' hD1 hT (hrom.2.2.2 hc)
          rw [show d + 3 + 2 = d + 5 from rfl, e2] at pre
          simp only [Option.bind_some] at pre
          have hbd : rdBody b n c T k = bnd (nxt b n k.2.2) fun k1 => bnd (kk b n T (n + 1) (255, none, false, 1) 0 k1) fun p => .ok (aK T c p.1, p.2) := by
            unfold rdBody
            rw [if_neg (by omega), if_neg (by omega), if_neg (by omega)]
            unfold rdKind
            rw [if_pos (hrom.2.2.2 hc)]
          exact fin _ O2 ((My.mx f1).trans f2) r2 (fun p hp => wfin p (hbd.trans hp)) pre hbd
        · rw [if_pos rfl] at pre
          obtain ⟨x, O2, e2, f2, r2⟩ := RN.cm (d + 2) hn hb (fb := 0) (by decide) h1 wk.2.1 r1'
          rw [show d + 3 + 2 = d + 2 + 3 from rfl, e2] at pre
          simp only [Option.bind_some] at pre
          have hD2 := hD1.mx f2
          have hbd : rdBody b n 10 T k = bnd (nxt b n k.2.2) fun k1 => bnd (tkL b n 0 k1) fun p => .ok (aT T p.1, p.2) := by
            unfold rdBody rdThing
            rw [if_pos rfl, if_pos (hrom.1 rfl)]
          have F2 : My O O2 := My.mx (f1.trans f2)
          rw [hq] at r2 hbd
          have r2 : RW b O2 x (tkL b n 0 k1) := r2
          have hbd : rdBody b n 10 T k = bnd (tkL b n 0 k1) fun p => .ok (aT T p.1, p.2) := hbd
          cases hq2 : tkL b n 0 k1 with
          | error e =>
            rw [hq2] at r2 hbd
            have r2 : ME O2 e := r2
            rw [if_neg (n_flt r2)] at pre
            exact fin (.error e) O2 F2 r2 (fun p hp => by cases hp) pre hbd
          | ok p =>
            rw [hq2] at r2 hbd
            obtain ⟨hx, hk2⟩ := r2
            have hr := hrom.1 rfl
            rw [hk2.2.2.2.2, if_pos rfl, hD2.1.1, if_pos (ib_n hr (by decide)), nI_clamp (by omega), hx, up_ne (by omega), hD2.1.1, nI_add] at pre
            exact fin (.ok (aT T p.1, p.2)) _ ((F2.trans (My.up (by omega))).trans (My.up (by omega))) ⟨MK.of hk2 (fun j a c => by simp (disch := omega) only [up_ne]), hD2.thing⟩ (fun p' hp => wfin p' (hbd.trans hp)) pre hbd
        · rw [if_neg (by decide), if_pos rfl] at pre
          obtain ⟨O2, e2, f2, r2⟩ := n_readMeans d hn hb h1 wk.2.1 r1' hD1 hT (hrom.2.1 rfl)
          rw [show d + 3 + 2 = d + 5 from rfl, e2] at pre
          simp only [Option.bind_some] at pre
          have hbd : rdBody b n 11 T k = bnd (nxt b n k.2.2) fun k1 => bnd (tkL b n 0 k1) fun p => rdNot b n T p.1 p.2 := by
            unfold rdBody rdMean
            rw [if_neg (by decide), if_pos rfl, if_pos (hrom.2.1 rfl)]
          exact fin _ O2 ((My.mx f1).trans f2) r2 (fun p hp => wfin p (hbd.trans hp)) pre hbd
        · rw [if_neg (by decide), if_neg (by decide), if_pos rfl, hD1.1.2.1] at pre
          obtain ⟨x, O2, e2, f2, r2⟩ := RN.cn (d + 2) hn hb (bd := nM T) (x2 := nI (nM T) - nI 1) (by omega) rfl h1 wk.2.1 r1'
          rw [show d + 3 + 2 = d + 2 + 3 from rfl, e2] at pre
          simp only [Option.bind_some] at pre
          have hD2 := hD1.mx f2
          have hbd : rdBody b n 12 T k = bnd (nxt b n k.2.2) fun k1 => bnd (tkN b n (nM T) k1) fun p => .ok (aS T p.1, p.2) := by
            unfold rdBody rdWord
            rw [if_neg (by decide), if_neg (by decide), if_pos rfl, if_pos (hrom.2.2.1 rfl)]
          have F2 : My O O2 := My.mx (f1.trans f2)
          rw [hq] at r2 hbd
          have r2 : RW b O2 x (tkN b n (nM T) k1) := r2
          have hbd : rdBody b n 12 T k = bnd (tkN b n (nM T) k1) fun p => .ok (aS T p.1, p.2) := hbd
          cases hq2 : tkN b n (nM T) k1 with
          | error e =>
            rw [hq2] at r2 hbd
            have r2 : ME O2 e := r2
            rw [if_neg (n_flt r2)] at pre
            exact fin (.error e) O2 F2 r2 (fun p hp => by cases hp) pre hbd
          | ok p =>
            rw [hq2] at r2 hbd
            obtain ⟨hx, hk2⟩ := r2
            have hr := hrom.2.2.1 rfl
            rw [hk2.2.2.2.2, if_pos rfl, hD2.1.2.2.1, if_pos (ib_n hr (by decide)), nI_clamp (by omega), hx, up_ne (by omega), hD2.1.2.2.1, nI_add] at pre
            exact fin (.ok (aS T p.1, p.2)) _ ((F2.trans (My.up (by omega))).trans (My.up (by omega))) ⟨MK.of hk2 (fun j a c => by simp (disch := omega) only [up_ne]), hD2.sound⟩ (fun p' hp => wfin p' (hbd.trans hp)) pre hbd
    · obtain ⟨O2, e2, f2, m2⟩ := p2 hrom
      have hbd : rdBody b n c T k = .error (5, k.2.1) := by
        unfold rdBody
        rcases hc with hc | rfl | rfl | rfl
        · rw [if_neg (by omega), if_neg (by omega), if_neg (by omega)]
          unfold rdKind
          rw [if_neg (fun q => hrom ⟨fun q => by omega, fun q => by omega, fun q => by omega, fun _ => q⟩)]
        · rw [if_pos rfl]; unfold rdThing; rw [if_neg (fun q => hrom ⟨fun _ => q, fun q => by omega, fun q => by omega, fun q => by omega⟩)]
        · rw [if_neg (by decide), if_pos rfl]; unfold rdMean; rw [if_neg (fun q => hrom ⟨fun q => by omega, fun _ => q, fun q => by omega, fun q => by omega⟩)]
        · rw [if_neg (by decide), if_neg (by decide), if_pos rfl]; unfold rdWord; rw [if_neg (fun q => hrom ⟨fun q => by omega, fun q => by omega, fun _ => q, fun q => by omega⟩)]
      rw [hbd]
      exact ⟨O2, pre.trans e2, My.mx f2, m2⟩
/-- what reading all leaves -/
def RAm (O : Mem_) (r : Pr_ (Td_ × Nat)) : Prop := match r with
  | .ok p => O 7 0 0 25 = nI 0 ∧ MD (O 7 0) p.1
  | .error e => ME O e
theorem n_readAll (d : Nat) (hn : n ≤ 400) (hb : ∀ j, b j < 256) : ∀ (r : Nat) (T : Td_) (k : Tk_) (c : Nat) (O : Mem_), MTp (O 7 0) (n, b) → MK b O k → WTk b n k → MD (O 7 0) T → WT T → n - k.2.1 < r → ∃ (x : Nat) (O' : Mem_), ex (d + 7) 140 20 [some (vr 7 0 0), some (vi (nI c))] [] O = ex (d + 7) 140 44 [some (vr 7 0 0), some (vi (nI x))] [] O' ∧ My O O' ∧ RAm O' (rdAll b n r T k c) ∧ ∀ p, rdAll b n r T k c = .ok p → x = p.2
  | 0, _, _, _, _, _, _, _, _, _, h => absurd h (Nat.not_lt_zero _)
  | r + 1, T, k, c, O, h, hk, wk, hD, hT, hr => by
    have w1 := wk.1
    have w2 := wk.2.1
    have w3 := wk.2.2.1
    have st := sX7_text_20 (d + 6) O (nI c)
    rw [hk.2.2.2.2, if_pos rfl, hk.2.2.1] at st
    unfold rdAll
    by_cases z : k.1 = 0
    · rw [if_pos (by rw [z])] at st
      rw [if_pos z]
      exact ⟨c, O, st, My.rfl, ⟨hk.2.2.2.2, hD⟩, fun p hp => by cases hp; rfl⟩
    · have w4 := wk.2.2.2.1 z
      rw [if_neg (by rw [nI_eq (by omega) (by decide)]; exact z)] at st
      rw [if_neg z]
      obtain ⟨O1, e1, f1, r1⟩ := n_readLine d hn hb h hk wk hD hT
      rw [e1] at st
      simp only [Option.bind_some] at st
      rw [nI_add] at st
      cases hq : rdLine b n T k with
      | error e =>
        rw [hq] at r1
        have r1 : ME O1 e := r1
        refine ⟨c + 1, O1, st.trans ((sX7_text_20 ..).trans ?_), f1, r1, fun p hp => by cases hp⟩
        rw [if_neg (n_flt r1)]
      | ok p =>
        rw [hq] at r1
        obtain ⟨a1, a2, a3⟩ := rdLine_ok hT wk hq
        obtain ⟨x, O2, e2, g2, r2, x2⟩ := n_readAll d hn hb r p.1 p.2 (c + 1) O1 (h.my f1) r1.1 a2 r1.2 a1 (by omega)
        exact ⟨x, O2, st.trans e2, f1.trans g2, r2, x2⟩
theorem MD_0 {R : Nat → Nat → Int32} (h : R 0 9 = nI 0 ∧ R 0 11 = nI 0 ∧ R 0 14 = nI 0 ∧ R 0 16 = nI 0) : MD R td0 := ⟨h, fun t ht => absurd ht (Nat.not_lt_zero t), fun t ht => absurd ht (Nat.not_lt_zero t), fun t ht => absurd ht (Nat.not_lt_zero t), fun t ht => absurd ht (Nat.not_lt_zero t)⟩
theorem n_readText (d : Nat) (hn : n ≤ 400) (hb : ∀ j, b j < 256) {O : Mem_} (h : MTp (O 7 0) (n, b)) : ∃ (x : Nat) (O' : Mem_), ex (d + 7) 140 0 [some (vr 7 0 0)] [] O = ex (d + 7) 140 44 [some (vr 7 0 0), some (vi (nI x))] [] O' ∧ My O O' ∧ RAm O' (rdText b n) ∧ ∀ p, rdText b n = .ok p → x = p.2 := by
  have st := sX7_text_0 (d + 6) O
  rw [sX7_firstDraft_0] at st
  simp only [Option.bind_some] at st
  obtain ⟨O1, q1⟩ : ∃ O1, O1 = up (up (up (up (up (up O 7 0 0 25 (nI 0)) 7 0 0 21 (nI 0)) 7 0 0 9 (nI 0)) 7 0 0 11 (nI 0)) 7 0 0 14 (nI 0)) 7 0 0 16 (nI 0) := ⟨_, rfl⟩
  rw [← q1] at st
  have f1 : My O O1 := by
    rw [q1]
    exact (((((My.mx (Mx.up (by decide))).trans (My.mx (Mx.up (by decide)))).trans (My.up (by decide))).trans (My.up (by decide))).trans (My.up (by decide))).trans (My.up (by decide))
  have d1 : MD (O1 7 0) td0 := by
    rw [q1]
    exact MD_0 ⟨by simp (disch := omega) only [up_ne, up_eq], by simp (disch := omega) only [up_ne, up_eq], by simp (disch := omega) only [up_ne, up_eq], by simp (disch := omega) only [up_ne, up_eq]⟩
  have h1 := h.my f1
  obtain ⟨O2, e2, f2, r2⟩ := n_nextT (d + 4) hn hb h1 (Nat.zero_le _) (by rw [q1]; simp (disch := omega) only [up_ne, up_eq]) (by rw [q1]; simp (disch := omega) only [up_ne, up_eq])
  rw [show d + 6 = d + 4 + 2 from rfl, e2] at st
  simp only [Option.bind_some] at st
  have F2 : My O O2 := f1.trans (My.mx f2)
  unfold rdText
  cases hq : nxt b n 0 with
  | error e =>
    rw [hq] at r2
    have r2 : ME O2 e := r2
    refine ⟨0, O2, st.trans ((sX7_text_20 ..).trans ?_), F2, r2, fun p hp => by cases hp⟩
    rw [if_neg (n_flt r2)]
  | ok k =>
    rw [hq] at r2
    obtain ⟨wk, -⟩ := nxt_ok (Nat.zero_le _) hq
    obtain ⟨x, O3, e3, g3, r3, x3⟩ := n_readAll d hn hb (n + 1) td0 k 0 O2 (h1.mx f2) r2 wk (d1.mx f2) WT_td0 (by omega)
    exact ⟨x, O3, st.trans e3, F2.trans g3, r3, x3⟩
end
