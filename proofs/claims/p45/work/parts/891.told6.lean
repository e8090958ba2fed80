/-! THE LAW TELLS ITS TEXT: the whole of it. -/
section
theorem lp_ended (d : Nat) {bs : List Nat} {n : Nat} (hl : bs.length ≤ 380) : ∀ (r : Nat) (O : Mem_) (ps : List Nat), (bs.length + ps.length + r) % 8 = 0 → r ≤ 7 → bs.length + ps.length + r ≤ 392 → TQ O (bs ++ ps) → ∃ O' ps', ex (d + 4) 125 5 [some (vr 6 0 0), some (vr 7 0 6), some (vi (nI n))] [] O = ex (d + 4) 125 5 [some (vr 6 0 0), some (vr 7 0 6), some (vi (nI n))] [] O' ∧ TQ O' (bs ++ ps') ∧ (bs ++ ps').length % 8 = 0 ∧ (bs ++ ps').length ≤ 392 ∧ FrW O O'
  | 0, O, ps, h8, _, hm, h => ⟨O, ps, rfl, h, by rw [List.length_append]; omega, by rw [List.length_append]; omega, FrW.rf⟩
  | r + 1, O, ps, h8, hr, hm, h => by
    obtain ⟨O1, e1, t1, t2, f1⟩ := (fun (q : ∃ O', ex (d + 3) 123 0 [some (vr 6 0 0), some (vr 7 0 6), some (vi (nI 32))] [] O = some (nI 0, O') ∧ TP O' (bs ++ ps ++ [32]) ∧ FrW O O') => (by obtain ⟨O', a, b, c⟩ := q; exact ⟨O', a, b, mem_app h.2 (fun x hx => by rw [List.mem_singleton.mp hx]; decide), c⟩ : ∃ O', ex (d + 3) 123 0 [some (vr 6 0 0), some (vr 7 0 6), some (vi (nI 32))] [] O = some (nI 0, O') ∧ TP O' (bs ++ ps ++ [32]) ∧ (∀ x ∈ bs ++ ps ++ [32], x < 256) ∧ FrW O O')) (l_put d h.1 h.2 (by decide) (by rw [List.length_append]; omega))
    obtain ⟨O2, ps', e2, t3, g1, g2, f2⟩ := lp_ended d hl r O1 (ps ++ [32]) (by rw [List.length_append, List.length_singleton]; omega) (by omega) (by rw [List.length_append, List.length_singleton]; omega) (by rw [← List.append_assoc]; exact ⟨t1, t2⟩)
    have hw := h.1
    obtain ⟨tp, w, ci, p1, p2, r0, r1, r2⟩ := hw
    obtain ⟨-, k2, -⟩ := k64 (bs ++ ps).length (by rw [List.length_append]; omega)
    have i1 : (nI 1).toNatClampNeg = 1 := by decide
    have st := sL_ended_5 (d + 3) O (nI n)
    rw [i1, r1, if_pos (by decide), if_neg (by decide), if_neg (fun z => by have := k2.mp z; rw [List.length_append] at this; omega), e1, Option.bind_some] at st
    exact ⟨O2, ps', st.trans e2, t3, g1, g2, f1.trans f2⟩
theorem l_ended (d : Nat) {O : Mem_} {bs : List Nat} (h : TQ O bs) (hl : bs.length ≤ 380) : ∃ O' g, ex (d + 4) 125 0 [some (vr 6 0 0), some (vr 7 0 6)] [] O = some (nI 1, O') ∧ WA (tpA (bs.length, g)) ∧ CI O' (tpA (bs.length, g)) ∧ (∀ j, j < bs.length → g j = bs.getD j 0) ∧ (∀ c, c ≠ 3 → c ≠ 7 → O' c = O c) ∧ ∀ p, p ≠ 6 → O' 7 0 p = O 7 0 p := by
  have r1 : rdL O 7 0 6 1 = Int64.ofNat bs.length := by
    obtain ⟨tp, w, ci, p1, p2, r0, r1, r2⟩ := h.1
    exact r1
  obtain ⟨-, -, kk⟩ := k64 bs.length (by omega)
  have i1 : (nI 1).toNatClampNeg = 1 := by decide
  have i2 : (nI 2).toNatClampNeg = 2 := by decide
  have s0 := sL_ended_0 (d + 3) O
  rw [i1, r1, kk, if_pos (by decide)] at s0
  obtain ⟨O2, ps, e2, t2, m8, ml, f2⟩ := lp_ended d (n := bs.length) hl ((8 - bs.length % 8) % 8) O [] (by simp only [List.length_nil]; omega) (by omega) (by simp only [List.length_nil]; omega) (by rw [List.append_nil]; exact h)
  obtain ⟨tp, w, ci, p1, p2, q0, q1, q2⟩ := t2.1
  obtain ⟨-, k2, -⟩ := k64 (bs ++ ps).length (by omega)
  have st := sL_ended_5 (d + 3) O2 (nI bs.length)
  have hO3 : ∃ O3, upL O2 7 0 6 1 0 = O3 := ⟨_, rfl⟩
  obtain ⟨O3, hO3⟩ := hO3
  have g3 : ∀ c, c ≠ 7 → O3 c = O2 c := fun c z => by rw [← hO3]; exact funext fun q => uL_row (Or.inl z)
  have c3 : CI O3 (tpA tp) := ci.of7 g3
  have r2 : rdL O3 7 0 6 2 = 0 := by rw [← hO3, rL_ne _ _ _ _ _ _ (by decide)]; exact q2
  have hlen : (bs ++ ps).length = bs.length + ps.length := List.length_append
  have htp : tp.1 = (bs ++ ps).length := by omega
  obtain ⟨O4, e4, w4, c4, f4⟩ := a_end w c3 (d + 2) (j := bs.length) (by show bs.length ≤ tp.1; omega)
  have e4' : ex (d + 3) 68 0 [some (vr 6 0 0), some (vi (nI bs.length))] [] O3 = some (nI tp.1, O4) := e4
  rw [i1, i2, q1, if_pos (by decide), if_neg (by decide), if_pos (k2.mpr m8), if_pos (by decide), if_pos (by decide), hO3, r2, if_pos (by decide), e4', Option.bind_some, if_neg (by rw [nI_ltI (by omega) (by omega)]; omega)] at st
  refine ⟨O4, tp.2, s0.trans (e2.trans st), w4, c4, fun j hj => ?_, fun c z z7 => ?_, fun p z => ?_⟩
  · rw [p2 j (by omega), List.getD_eq_getElem?_getD, List.getElem?_append_left hj, ← List.getD_eq_getElem?_getD]
  · rw [f4 c z, g3 c z7]; exact f2.1 c z z7
  · rw [f4 7 (by decide), ← hO3, uL_p z]; exact f2.2 p z
/-- what the law holds of a text -/
def LA (T : Td_) (R : Nat → Nat → Int32) : Prop := Mn R (nT T) (nM T) (nS T) (nK T) ∧ (∀ t, t < nT T → R 1 t = nI (mk_ T t)) ∧ (∀ m, m < nM T → R 2 (3 * m) = nI (hs_ T m) ∧ R 2 (3 * m + 1) = nI (hn_ T m) ∧ R 2 (3 * m + 2) = nI (are T m)) ∧ (∀ s, s < nS T → R 3 s = nI (tg_ T s)) ∧ ∀ k, k < nK T → R 4 (6 * k) = nI (so_ T k) ∧ R 4 (6 * k + 1) = nI (se_ T k) ∧ R 4 (6 * k + 2) = oI (fe_ T k) ∧ R 4 (6 * k + 3) = bI (ul_ T k) ∧ R 4 (6 * k + 4) = nI (ch_ T k) ∧ R 4 (6 * k + 5) = nI (can T k)
/-- a text of the law's size -/
def LB (T : Td_) : Prop := 2 ≤ nT T ∧ nT T ≤ 5 ∧ 2 ≤ nM T ∧ nM T ≤ 6 ∧ 1 ≤ nS T ∧ nS T ≤ 3 ∧ 1 ≤ nK T ∧ nK T ≤ 4
def tdA (T : Td_) (g : Nat → Nat) : A_ := (T, sc0 T, fun _ => none, (0, g), 0, A0_.2.2.2.2.2)
theorem told_end {L a b c e n : Nat} {l : List Nat} {M : List (Nat × Nat)} {W : List Nat} {K : List Kd_} {O : Mem_} (ha0 : 2 ≤ a) (ha : a ≤ 5) (hb0 : 2 ≤ b) (hb : b ≤ 6) (hc0 : 1 ≤ c) (hc : c ≤ 3) (he0 : 1 ≤ e) (he : e ≤ 4) (h : S4 L a b c e e l M W K O) : ∃ T g O1, LB T ∧ ex 10 129 507 [some (vr 6 0 0), some (vr 8 0 0), some (vi (nI 0)), none, some (vr 7 0 2), none, some (vr 7 0 4), some (vr 7 0 5), some (vr 7 0 6), none, none, some (vi (nI (n - 1))), some (vi (nI e))] [] O = some (nI 1, O1) ∧ WA (tdA T g) ∧ CI O1 (tdA T g) ∧ O1 8 0 1 0 = nI L ∧ LA T (O1 7 0) := by
  obtain ⟨h1, h2, h3, h4, h5, h6, h7, h8, h9, h10⟩ := h
  have hlen := h1.len
  have hW := fl_le (f := lnW) (b := 7) (P := fun _ => True) (fun a _ => Nat.le_of_eq (lnW_len a)) W (fun _ _ => trivial)
  have hK := fl_le (f := lnK) (b := 42) (P := KOK a) (fun _ => lnK_len) K h6
  have hl0 : (l.flatMap lnT ++ M.flatMap lnM ++ W.flatMap lnW ++ K.flatMap lnK).length ≤ 380 := by
    simp only [List.length_append]
    omega
  have i0 : (nI 0).toNatClampNeg = 0 := by decide
  have i1 : (nI 1).toNatClampNeg = 1 := by decide
  have i2 : (nI 2).toNatClampNeg = 2 := by decide
  have i3 : (nI 3).toNatClampNeg = 3 := by decide
  have he2 : l.flatMap lnT ++ M.flatMap lnM ++ W.flatMap lnW ++ K.flatMap lnK = enc (l, M, W, K) := by
    unfold enc
    simp only [List.append_assoc]
  rw [he2] at h8 hl0
  have nt : nT (l, M, W, K) = a := h1.1
  have nm : nM (l, M, W, K) = b := h1.2.2.2.1
  have ns : nS (l, M, W, K) = c := h2
  have nk : nK (l, M, W, K) = e := h5
  obtain ⟨O2, g, e2, w2, c2, g2, f2, p2⟩ := l_ended 5 h8 hl0
  obtain ⟨O3, e3, w3, c3, f37, f38⟩ := c_text 0 w2 c2
  have hr : rdText (tpA ((enc (l, M, W, K)).length, g)).2.2.2.1.2 (tpA ((enc (l, M, W, K)).length, g)).2.2.2.1.1 = .ok ((l, M, W, K), nT (l, M, W, K) + nM (l, M, W, K) + nS (l, M, W, K) + nK (l, M, W, K)) := by
    refine rdText_enc ⟨fun x hx => ?_, fun q hq => ?_, fun v hv => ?_, fun q hq => ?_, ?_, ?_, ?_, ?_⟩ rfl ⟨by rw [Nat.zero_add]; exact Nat.le_refl _, fun i hi => by rw [Nat.zero_add]; exact g2 i hi⟩
    · have := h1.2.1 x hx; omega
    · have := h1.2.2.2.2.1 q hq; exact ⟨by omega, by omega, this.2.2⟩
    · have := h3 v hv; rw [nm]; omega
    · obtain ⟨q1, q2, q3, q4⟩ := h6 q hq
      exact ⟨q1, by omega, fun t ht => by have := q3 t ht; rw [nt]; omega, q4⟩
    · omega
    · omega
    · omega
    · omega
  rw [hr] at e3 w3 c3
  have r7 : ∀ p, p ≠ 6 → O3 7 0 p = O 7 0 p := fun p z => by rw [f37]; exact p2 p z
  have st := sL_told_507 9 O (nI 0) (nI (n - 1)) (nI e)
  have e2' : ex 9 125 0 [some (vr 6 0 0), some (vr 7 0 6)] [] O = some (nI 1, O2) := e2
  have e3' : ex 9 69 0 [some (vr 6 0 0)] [] O2 = some (nI (nT (l, M, W, K) + nM (l, M, W, K) + nS (l, M, W, K) + nK (l, M, W, K)), O3) := e3
  rw [if_pos (by decide), i3, h9.2.2.2, if_neg (by rw [nI_ltI (by omega) (by omega)]; omega), e2'] at st
  simp only [Option.bind_some] at st
  rw [if_neg (by decide), e3'] at st
  simp only [Option.bind_some] at st
  rw [if_pos (by decide), if_pos (by decide), if_pos (by decide), if_pos (by decide), i0, i1, i2, r7 5 (by decide), h9.1, h9.2.1, h9.2.2.1, h9.2.2.2, nI_add, nI_add, nI_add, if_pos (by rw [nt, nm, ns, nk])] at st
  refine ⟨(l, M, W, K), g, O3, ⟨by omega, by omega, by omega, by omega, by omega, by omega, by omega, by omega⟩, st, w3, c3, by rw [f38, f2 8 (by decide) (by decide)]; exact h10, ?_, ?_, ?_, ?_, ?_⟩
  · rw [nt, nm, ns, nk]
    exact h9.of (r7 5 (by decide))
  · rw [r7 1 (by decide), nt]; exact h1.2.2.1
  · rw [r7 2 (by decide), nm]; exact h1.2.2.2.2.2
  · rw [r7 3 (by decide), ns]; exact h4
  · rw [r7 4 (by decide), nk]
    exact h7
theorem told_ok {L : Nat} {O : Mem_} (h31 : L < 2 ^ 31) (hT : TQ O []) (h8 : O 8 0 1 0 = nI L) : ∃ T g O1, LB T ∧ ex 10 129 5 [some (vr 6 0 0), some (vr 8 0 0), some (vi (nI 0)), some (vr 7 0 1), some (vr 7 0 2), some (vr 7 0 3), some (vr 7 0 4), some (vr 7 0 5), some (vr 7 0 6)] [] O = some (nI 1, O1) ∧ WA (tdA T g) ∧ CI O1 (tdA T g) ∧ O1 8 0 1 0 = nI L ∧ LA T (O1 7 0) := by
  have i0 : (nI 0).toNatClampNeg = 0 := by decide
  have i1 : (nI 1).toNatClampNeg = 1 := by decide
  have i2 : (nI 2).toNatClampNeg = 2 := by decide
  have i3 : (nI 3).toNatClampNeg = 3 := by decide
  obtain ⟨r0, e0⟩ := cell_ok 8 (k := 0) h8 h31 (by decide)
  obtain ⟨r1, h1, e1⟩ := low_ok 8 O r0 (n := 3) (by decide) (by decide)
  obtain ⟨r2, h2, e2⟩ := low_ok 8 O (r0 >>> (nI 2 &&& (31 : Int32))) (n := 4) (by decide) (by decide)
  obtain ⟨r3, h3, e3⟩ := low_ok 8 (up O 7 0 5 0 (nI 2 + nI r2)) (r0 >>> (nI 4 &&& (31 : Int32))) (n := 5) (by decide) (by decide)
  obtain ⟨r4, h4, e4⟩ := low_ok 8 (up (up O 7 0 5 0 (nI 2 + nI r2)) 7 0 5 1 (nI 2 + nI r3)) (r0 >>> (nI 7 &&& (31 : Int32))) (n := 3) (by decide) (by decide)
  obtain ⟨r5, h5, e5⟩ := low_ok 8 (up (up (up O 7 0 5 0 (nI 2 + nI r2)) 7 0 5 1 (nI 2 + nI r3)) 7 0 5 2 (nI 1 + nI r4)) (r0 >>> (nI 9 &&& (31 : Int32))) (n := 4) (by decide) (by decide)
  have st := sL_told_5 9 O (nI 0)
  rw [i0, i1, i2, i3] at st
  simp only [e0, e1, e2, e3, e4, e5, Option.bind_some] at st
  rw [if_pos (by decide), if_pos (by decide), if_pos (by decide), if_pos (by decide), nI_add, nI_add, nI_add, nI_add, nI_add, q_shl _ (by omega), pk_sub (Nat.two_pow_pos _)] at st
  have hn : 2 ^ (2 + r1) ≤ 2 ^ 4 := Nat.pow_le_pow_right (by decide) (by omega)
  have hn0 : 0 < 2 ^ (2 + r1) := Nat.two_pow_pos _
  generalize 2 ^ (2 + r1) = n at st hn hn0
  generalize hO1 : up (up (up (up O 7 0 5 0 (nI (2 + r2))) 7 0 5 1 (nI (2 + r3))) 7 0 5 2 (nI (1 + r4))) 7 0 5 3 (nI (1 + r5)) = O1 at st
  have t1 : TQ O1 [] := by rw [← hO1]; exact (((hT.u7 (by decide)).u7 (by decide)).u7 (by decide)).u7 (by decide)
  have m1 : Mn (O1 7 0) (2 + r2) (2 + r3) (1 + r4) (1 + r5) := by
    rw [← hO1]
    refine ⟨?_, ?_, ?_, ?_⟩
    all_goals simp (disch := omega) only [up_ne, up_eq]
  have q81 : O1 8 = O 8 := by
    rw [← hO1]
    funext x
    rw [up_row (Or.inl (by decide)), up_row (Or.inl (by decide)), up_row (Or.inl (by decide)), up_row (Or.inl (by decide))]
  have v1 : O1 8 0 1 0 = nI L := by rw [q81]; exact h8
  generalize ha : 2 + r2 = a at st m1
  generalize hb : 2 + r3 = b at st m1
  generalize hc : 1 + r4 = c at st m1
  generalize he : 1 + r5 = e at st m1
  obtain ⟨O2, f2, l, s2⟩ := lp_i (fun k (O : Mem_) => ex 10 129 91 [some (vr 6 0 0), some (vr 8 0 0), some (vi (nI 0)), some (vr 7 0 1), some (vr 7 0 2), some (vr 7 0 3), some (vr 7 0 4), some (vr 7 0 5), some (vr 7 0 6), none, none, some (vi (nI (n - 1))), some (vi (nI k))] [] O) (fun k O' => ∃ l, S1 L a b c e k l O') a (fun k O' hk ⟨l, hl⟩ => by
    obtain ⟨x, O2, hs, ee⟩ := s1_step (n := n) h31 hn0 hn (by omega) hk hl
    exact ⟨O2, ee, _, hs⟩) O1 ⟨[], rfl, fun x hx => absurd hx List.not_mem_nil, fun j hj => absurd hj (Nat.not_lt_zero j), t1, m1, v1⟩
  obtain ⟨l1, l2, l3, l4, l5, l6⟩ := s2
  have s91 := sL_told_91 9 O2 (nI 0) (nI (n - 1)) (nI a)
  rw [if_pos (by decide), i0, l5.1, if_neg (by rw [nI_ltI (by omega) (by omega)]; omega)] at s91
  obtain ⟨O3, f3, M, s3⟩ := lp_i (fun k (O : Mem_) => ex 10 129 159 [some (vr 6 0 0), some (vr 8 0 0), some (vi (nI 0)), some (vr 7 0 1), some (vr 7 0 2), some (vr 7 0 3), some (vr 7 0 4), some (vr 7 0 5), some (vr 7 0 6), none, none, some (vi (nI (n - 1))), some (vi (nI k))] [] O) (fun k O' => ∃ M, S2 L a b c e k l M O') b (fun k O' hk ⟨M, hM⟩ => by
    obtain ⟨x, O2, hs, ee⟩ := s2_step (n := n) h31 hn0 hn (by omega) (by omega) hk hM
    exact ⟨O2, ee, _, hs⟩) O2 ⟨[], l1, l2, l3, rfl, fun x hx => absurd hx List.not_mem_nil, fun j hj => absurd hj (Nat.not_lt_zero j), l4.ap (by simp), l5, l6⟩
  obtain ⟨-, -, k3, k4, k5, k6, k7, k8, k9⟩ := s3
  have s159 := sL_told_159 9 O3 (nI 0) (nI (n - 1)) (nI b)
  rw [if_pos (by decide), i1, k8.2.1, if_neg (by rw [nI_ltI (by omega) (by omega)]; omega)] at s159
  obtain ⟨O4, f4, W, s4⟩ := lp_i (fun k (O : Mem_) => ex 10 129 435 [some (vr 6 0 0), some (vr 8 0 0), some (vi (nI 0)), none, some (vr 7 0 2), some (vr 7 0 3), some (vr 7 0 4), some (vr 7 0 5), some (vr 7 0 6), none, none, some (vi (nI (n - 1))), some (vi (nI k))] [] O) (fun k O' => ∃ W, S3 L a b c e k l M W O') c (fun k O' hk ⟨W, hW⟩ => by
    obtain ⟨x, O2, hs, ee⟩ := s3_step (n := n - 1) h31 (by omega) (by omega) (by omega) (by omega) hk hW
    exact ⟨O2, ee, _, hs⟩) O3 ⟨[], ⟨l1, l2, k3, k4, k5, k6⟩, rfl, fun x hx => absurd hx List.not_mem_nil, fun j hj => absurd hj (Nat.not_lt_zero j), k7.ap (by simp), k8, k9⟩
  obtain ⟨m1, m2, m3, m4, m5, m6, m7⟩ := s4
  have s435 := sL_told_435 9 O4 (nI 0) (nI (n - 1)) (nI c)
  rw [if_pos (by decide), i2, m6.2.2.1, if_neg (by rw [nI_ltI (by omega) (by omega)]; omega)] at s435
  obtain ⟨O5, f5, K, s5⟩ := lp_i (fun k (O : Mem_) => ex 10 129 507 [some (vr 6 0 0), some (vr 8 0 0), some (vi (nI 0)), none, some (vr 7 0 2), none, some (vr 7 0 4), some (vr 7 0 5), some (vr 7 0 6), none, none, some (vi (nI (n - 1))), some (vi (nI k))] [] O) (fun k O' => ∃ K, S4 L a b c e k l M W K O') e (fun k O' hk ⟨K, hK⟩ => by
    obtain ⟨x, O2, hs, ee⟩ := s4_step (n := n) h31 hn0 hn (by omega) (by omega) (by omega) (by omega) (by omega) hk hK
    exact ⟨O2, ee, _, hs⟩) O4 ⟨[], m1, m2, m3, m4, rfl, fun x hx => absurd hx List.not_mem_nil, fun j hj => absurd hj (Nat.not_lt_zero j), m5.ap (by simp), m6, m7⟩
  obtain ⟨T, g, O6, hB, f6, w6, c6, v6, la⟩ := told_end (n := n) (by omega) (by omega) (by omega) (by omega) (by omega) (by omega) (by omega) (by omega) s5
  exact ⟨T, g, O6, hB, st.trans (f2.trans (s91.trans (f3.trans (s159.trans (f4.trans (s435.trans (f5.trans f6))))))), w6, c6, v6, la⟩
end
