/-! THE CLASS READS A TEXT, 3: things, meanings, words. -/
section
/-- the draft -/
def CD (R : Nat → Nat → Int32) (T : Td_) : Prop :=
  (R 0 0 = nI (nT T) ∧ R 0 1 = nI (nM T) ∧ R 0 2 = nI (nS T) ∧ R 0 3 = nI (nK T)) ∧
  (∀ t, t < nT T → R 5 t = nI (mk_ T t)) ∧
  (∀ m, m < nM T → R 7 m = nI (hs_ T m) ∧ R 8 m = nI (hn_ T m) ∧ R 9 m = nI (asks T m)) ∧
  (∀ s, s < nS T → R 13 s = nI (tg_ T s)) ∧
  (∀ k, k < nK T → R 14 k = nI (so_ T k) ∧ R 15 k = nI (se_ T k) ∧ R 16 k = oI (fe_ T k) ∧ R 17 k = bI (ul_ T k) ∧ R 18 k = nI (ch_ T k))
/-- what reading a line changes -/
def Fw (w : Nat) (O O' : Mem_) : Prop := (∀ c q, (c ≠ 3 ∨ q ≠ 0) → (c ≠ 4 ∨ q ≠ w) → O' c q = O c q) ∧ ∀ p j, p ≠ 0 ∨ (j ≠ 2 ∧ j ≠ 3 ∧ (j < 5 ∨ 8 < j)) → O' 3 0 p j = O 3 0 p j
theorem Fw.rfl {w : Nat} {O : Mem_} : Fw w O O := ⟨fun _ _ _ _ => Eq.refl _, fun _ _ _ => Eq.refl _⟩
theorem Fw.trans {w : Nat} {O O' O2 : Mem_} (h : Fw w O O') (g : Fw w O' O2) : Fw w O O2 := ⟨fun c q a b => (g.1 c q a b).trans (h.1 c q a b), fun p j a => (g.2 p j a).trans (h.2 p j a)⟩
theorem Fw.fx {w : Nat} {O O' : Mem_} (h : Fx O O') : Fw w O O' := ⟨fun c q a _ => h.1 c q a, h.2⟩
theorem Fw.ro {w : Nat} {O O' : Mem_} (h : Ro 4 w O O') : Fw w O O' := ⟨fun c q _ b => h c q b, fun p j _ => by rw [h 3 0 (Or.inl (by decide))]⟩
theorem CTp.fw {w : Nat} {O O' : Mem_} {tp : Nat × (Nat → Nat)} (h : CTp (O 3 0) tp) (g : Fw w O O') : CTp (O' 3 0) tp := ⟨(g.2 0 1 (by decide)).trans h.1, fun j hj => (g.2 1 j (by omega)).trans (h.2 j hj)⟩
theorem CD.fx {w : Nat} {O O' : Mem_} {T : Td_} (h : CD (O 4 w) T) (g : Fx O O') : CD (O' 4 w) T := by rw [g.1 4 w (Or.inl (by decide))]; exact h
theorem Ro.at3 {w : Nat} {O O' : Mem_} (h : Ro 4 w O O') : O' 3 = O 3 := funext fun q => h 3 q (Or.inl (by decide))
section
variable {T : Td_} {w : Nat}
theorem c_addThing (d : Nat) {O : Mem_} {x : Int32} (h : CD (O 4 w) T) (hn : nT T < 8) : ∃ O', ex (d + 1) 37 0 [some (vr 4 w 0), some (vi x)] [] O = some (nI 0, O') ∧ Ro 4 w O O' ∧ ∀ v, x = nI v → CD (O' 4 w) (aT T v) := by
  have e : ∀ v, nT (aT T v) = nT T + 1 := fun v => List.length_append
  refine ⟨up (up O 4 w 5 (nT T) x) 4 w 0 0 (nI (nT T + 1)), ?_, Ro.rfl.up.up, fun v hv => ?_⟩
  · rw [sX4_addThing_0, h.1.1, if_pos (nI_lt hn (by decide)), if_pos (ib_n hn (by decide)), nI_clamp (by omega), up_ne (by omega), h.1.1, nI_add]
  · obtain ⟨⟨h1, h2, h3, h4⟩, h5, h6, h7, h8⟩ := h
    refine ⟨⟨?_, ?_, ?_, ?_⟩, fun t ht => ?_, fun m hm => ⟨?_, ?_, ?_⟩, fun s hs => ?_, fun k hk => ⟨?_, ?_, ?_, ?_, ?_⟩⟩
    · rw [up_eq, e]
    · rw [up_ne (by omega), up_ne (by omega)]; exact h2
    · rw [up_ne (by omega), up_ne (by omega)]; exact h3
    · rw [up_ne (by omega), up_ne (by omega)]; exact h4
    · rw [up_ne (by omega)]
      by_cases z : t = nT T
      · rw [z, up_eq, hv]
        show nI v = nI ((T.1 ++ [v]).getD T.1.length 0)
        rw [gd_last]
      · rw [up_ne (by omega), h5 t (by have := e v; omega)]
        show nI (T.1.getD t 0) = nI ((T.1 ++ [v]).getD t 0)
        rw [gd_old (show t < T.1.length by have := e v; show t < nT T; omega)]
    · rw [up_ne (by omega), up_ne (by omega)]; exact (h6 m hm).1
    · rw [up_ne (by omega), up_ne (by omega)]; exact (h6 m hm).2.1
    · rw [up_ne (by omega), up_ne (by omega)]; exact (h6 m hm).2.2
    · rw [up_ne (by omega), up_ne (by omega)]; exact h7 s hs
    · rw [up_ne (by omega), up_ne (by omega)]; exact (h8 k hk).1
    · rw [up_ne (by omega), up_ne (by omega)]; exact (h8 k hk).2.1
    · rw [up_ne (by omega), up_ne (by omega)]; exact (h8 k hk).2.2.1
    · rw [up_ne (by omega), up_ne (by omega)]; exact (h8 k hk).2.2.2.1
    · rw [up_ne (by omega), up_ne (by omega)]; exact (h8 k hk).2.2.2.2
theorem c_addSound (d : Nat) {O : Mem_} {x : Int32} (h : CD (O 4 w) T) (hn : nS T < 4) : ∃ O', ex (d + 1) 39 0 [some (vr 4 w 0), some (vi x)] [] O = some (nI 0, O') ∧ Ro 4 w O O' ∧ ∀ v, x = nI v → CD (O' 4 w) (aS T v) := by
  have e : ∀ v, nS (aS T v) = nS T + 1 := fun v => List.length_append
  refine ⟨up (up O 4 w 13 (nS T) x) 4 w 0 2 (nI (nS T + 1)), ?_, Ro.rfl.up.up, fun v hv => ?_⟩
  · rw [sX4_addSound_0, h.1.2.2.1, if_pos (nI_lt hn (by decide)), if_pos (ib_n hn (by decide)), nI_clamp (by omega), up_ne (by omega), h.1.2.2.1, nI_add]
  · obtain ⟨⟨h1, h2, h3, h4⟩, h5, h6, h7, h8⟩ := h
    refine ⟨⟨?_, ?_, ?_, ?_⟩, fun t ht => ?_, fun m hm => ⟨?_, ?_, ?_⟩, fun s hs => ?_, fun k hk => ⟨?_, ?_, ?_, ?_, ?_⟩⟩
    · rw [up_ne (by omega), up_ne (by omega)]; exact h1
    · rw [up_ne (by omega), up_ne (by omega)]; exact h2
    · rw [up_eq, e]
    · rw [up_ne (by omega), up_ne (by omega)]; exact h4
    · rw [up_ne (by omega), up_ne (by omega)]; exact h5 t ht
    · rw [up_ne (by omega), up_ne (by omega)]; exact (h6 m hm).1
    · rw [up_ne (by omega), up_ne (by omega)]; exact (h6 m hm).2.1
    · rw [up_ne (by omega), up_ne (by omega)]; exact (h6 m hm).2.2
    · rw [up_ne (by omega)]
      by_cases z : s = nS T
      · rw [z, up_eq, hv]
        show nI v = nI ((T.2.2.1 ++ [v]).getD T.2.2.1.length 0)
        rw [gd_last]
      · rw [up_ne (by omega), h7 s (by have := e v; omega)]
        show nI (T.2.2.1.getD s 0) = nI ((T.2.2.1 ++ [v]).getD s 0)
        rw [gd_old (show s < T.2.2.1.length by have := e v; show s < nS T; omega)]
    · rw [up_ne (by omega), up_ne (by omega)]; exact (h8 k hk).1
    · rw [up_ne (by omega), up_ne (by omega)]; exact (h8 k hk).2.1
    · rw [up_ne (by omega), up_ne (by omega)]; exact (h8 k hk).2.2.1
    · rw [up_ne (by omega), up_ne (by omega)]; exact (h8 k hk).2.2.2.1
    · rw [up_ne (by omega), up_ne (by omega)]; exact (h8 k hk).2.2.2.2
theorem bc_any (d : Nat) (O : Mem_) (x : Int32) : ∃ y, ex (d + 1) 217 0 [some (vi x)] [] O = some (y, O) := ⟨_, sJ6_bitCount_0f7a4_0 d O x⟩
theorem c_addMeaning (d : Nat) {O : Mem_} {x y : Int32} (h : CD (O 4 w) T) (hn : nM T < 12) : ∃ O', ex (d + 2) 38 0 [some (vr 4 w 0), some (vi x), some (vi y)] [] O = some (nI 0, O') ∧ Ro 4 w O O' ∧ ∀ u v, x = nI u → y = nI v → u < 256 → v < 256 → CD (O' 4 w) (aM T u v) := by
  have e : ∀ u v, nM (aM T u v) = nM T + 1 := fun u v => List.length_append
  obtain ⟨z, hz⟩ := bc_any d (up (up O 4 w 7 (nM T) x) 4 w 8 (nM T) y) (x ||| y)
  refine ⟨up (up (up (up O 4 w 7 (nM T) x) 4 w 8 (nM T) y) 4 w 9 (nM T) z) 4 w 0 1 (nI (nM T + 1)), ?_, Ro.rfl.up.up.up.up, fun u v hu hv lu lv => ?_⟩
  · have g1 : (up O 4 w 7 (nM T) x) 4 w 0 1 = nI (nM T) := (up_ne (by omega)).trans h.1.2.1
    have g2 : (up (up O 4 w 7 (nM T) x) 4 w 8 (nM T) y) 4 w 0 1 = nI (nM T) := (up_ne (by omega)).trans g1
    have g3 : (up (up (up O 4 w 7 (nM T) x) 4 w 8 (nM T) y) 4 w 9 (nM T) z) 4 w 0 1 = nI (nM T) := (up_ne (by omega)).trans g2
    have hi : ib (nI (nM T)) 12 = true := ib_n hn (by decide)
    have hc : Int32.toNatClampNeg (nI (nM T)) = nM T := nI_clamp (by omega)
    rw [sX4_addMeaning_0, h.1.2.1, if_pos (nI_lt hn (by decide)), hi, if_pos rfl, hc, g1, hi, if_pos rfl, hc, hz]
    simp only [Option.bind_some]
    rw [g2, hi, if_pos rfl, hc, g3, nI_add]
  · subst hu
    subst hv
    have lor : u ||| v < 256 := Nat.or_lt_two_pow (n := 8) lu lv
    have hzz : z = nI (cnt (u ||| v) 8) := by
      rw [q_or, m_bitCount d _ (b := u ||| v) (by omega)] at hz
      have : nI (cnt (u ||| v) 12) = z := congrArg Prod.fst (Option.some.inj hz)
      rw [← this, cnt_hi (k := 8) lor 12 (by decide)]
    obtain ⟨⟨h1, h2, h3, h4⟩, h5, h6, h7, h8⟩ := h
    have hgl : ∀ p : Nat × Nat, (T.2.1 ++ [p]).getD (nM T) (0, 0) = p := fun p => gd_last (l := T.2.1)
    have hgo : ∀ (p : Nat × Nat) m, m < nM T → (T.2.1 ++ [p]).getD m (0, 0) = T.2.1.getD m (0, 0) := fun p m hm => gd_old hm
    refine ⟨⟨?_, ?_, ?_, ?_⟩, fun t ht => ?_, fun m hm => ?_, fun s hs => ?_, fun k hk => ⟨?_, ?_, ?_, ?_, ?_⟩⟩
    · simp (disch := omega) only [up_ne]; exact h1
    · rw [up_eq, e]
    · simp (disch := omega) only [up_ne]; exact h3
    · simp (disch := omega) only [up_ne]; exact h4
    · simp (disch := omega) only [up_ne]; exact h5 t ht
    · by_cases y : m = nM T
      · rw [y]
        simp (disch := omega) only [up_ne, up_eq]
        unfold hs_ hn_ asks hs_ hn_
        show nI u = nI ((T.2.1 ++ [(u, v)]).getD (nM T) (0, 0)).1 ∧ nI v = nI ((T.2.1 ++ [(u, v)]).getD (nM T) (0, 0)).2 ∧ z = nI (cnt (((T.2.1 ++ [(u, v)]).getD (nM T) (0, 0)).1 ||| ((T.2.1 ++ [(u, v)]).getD (nM T) (0, 0)).2) 8)
        rw [hgl]
        exact ⟨rfl, rfl, hzz⟩
      · have hm' : m < nM T := by have := e u v; omega
        simp (disch := omega) only [up_ne]
        unfold hs_ hn_ asks hs_ hn_
        show _ = nI ((T.2.1 ++ [(u, v)]).getD m (0, 0)).1 ∧ _ = nI ((T.2.1 ++ [(u, v)]).getD m (0, 0)).2 ∧ _ = nI (cnt (((T.2.1 ++ [(u, v)]).getD m (0, 0)).1 ||| ((T.2.1 ++ [(u, v)]).getD m (0, 0)).2) 8)
        rw [hgo _ m hm']
        exact h6 m hm'
    · simp (disch := omega) only [up_ne]; exact h7 s hs
    · simp (disch := omega) only [up_ne]; exact (h8 k hk).1
    · simp (disch := omega) only [up_ne]; exact (h8 k hk).2.1
    · simp (disch := omega) only [up_ne]; exact (h8 k hk).2.2.1
    · simp (disch := omega) only [up_ne]; exact (h8 k hk).2.2.2.1
    · simp (disch := omega) only [up_ne]; exact (h8 k hk).2.2.2.2
/-- what a line leaves -/
def RL (O : Mem_) (w : Nat) (r : Pr_ (Td_ × Tk_)) : Prop := match r with
  | .ok p => CK O p.2 ∧ CD (O 4 w) p.1
  | .error e => CE O e
variable {b : Nat → Nat} {n : Nat}
theorem RT.cl (d : Nat) (hn : n ≤ 400) (hb : ∀ j, b j < 256) {O : Mem_} {e fb : Nat} (hfb : fb < 256) (h : CTp (O 3 0) (n, b)) (he : e ≤ n) (r : RT O (nxt b n e)) : ∃ x O', ex (d + 5) 34 0 [some (vr 3 0 0), some (vi (nI fb))] [] O = some (x, O') ∧ Fx O O' ∧ RV O' x (bnd (nxt b n e) (tkL b n fb)) := by
  cases hq : nxt b n e with
  | error er => rw [hq] at r; exact ⟨_, O, (c_fault (d + 4) r).1, Fx.rfl, r⟩
  | ok k => rw [hq] at r; exact c_takeLetters d hn hb hfb h r (nxt_ok he hq).1
theorem RT.cn (d : Nat) (hn : n ≤ 400) (hb : ∀ j, b j < 256) {O : Mem_} {e bd : Nat} (hbd : bd < 256) (h : CTp (O 3 0) (n, b)) (he : e ≤ n) (r : RT O (nxt b n e)) : ∃ x O', ex (d + 5) 35 0 [some (vr 3 0 0), some (vi (nI bd))] [] O = some (x, O') ∧ Fx O O' ∧ RV O' x (bnd (nxt b n e) (tkN b n bd)) := by
  cases hq : nxt b n e with
  | error er => rw [hq] at r; exact ⟨_, O, (c_fault (d + 4) r).2, Fx.rfl, r⟩
  | ok k => rw [hq] at r; exact c_takeNumber d hn hb hbd h r (nxt_ok he hq).1
theorem c_readThing (d : Nat) (hn : n ≤ 400) (hb : ∀ j, b j < 256) {O : Mem_} {k : Tk_} (h : CTp (O 3 0) (n, b)) (hk : CK O k) (wk : WTk b n k) (hD : CD (O 4 w) T) (hT : WT T) : ∃ O', ex (d + 6) 29 0 [some (vr 3 0 0), some (vr 4 w 0)] [] O = some (nI 0, O') ∧ Fw w O O' ∧ RL O' w (rdThing b n T k) := by
  have w1 := wk.1
  have w2 := wk.2.1
  have h8 := hT.1
  have st := sX3_readThing_0 (d + 5) O w
  rw [hD.1.1] at st
  unfold rdThing
  by_cases z : nT T < 8
  · rw [if_pos (nI_lt z (by decide))] at st
    rw [if_pos z]
    obtain ⟨O1, e1, f1, r1⟩ := c_nextToken (d + 1) hn hb h wk.2.1 hk.1 hk.2.2.2.2
    obtain ⟨x, O2, e2, f2, r2⟩ := RT.cl d hn hb (fb := 0) (by decide) (h.fx f1) wk.2.1 r1
    obtain ⟨O3, e3, f3, r3⟩ := c_addThing (d + 4) (x := x) ((hD.fx f1).fx f2) z
    rw [e1] at st
    simp only [Option.bind_some] at st
    rw [e2] at st
    simp only [Option.bind_some] at st
    rw [e3] at st
    refine ⟨O3, st, ((Fw.fx f1).trans (Fw.fx f2)).trans (Fw.ro f3), ?_⟩
    cases hq : nxt b n k.2.2 with
    | error er => rw [hq] at r2; exact CE.ro r2 f3.at3
    | ok k1 =>
      rw [hq] at r2
      have r2 : RV O2 x (tkL b n 0 k1) := r2
      show RL O3 w (bnd (tkL b n 0 k1) _)
      cases hq2 : tkL b n 0 k1 with
      | error er => rw [hq2] at r2; exact CE.ro r2 f3.at3
      | ok p => rw [hq2] at r2; exact ⟨CK.ro r2.2 f3.at3, r3 p.1 r2.1⟩
  · rw [if_neg (nI_nlt (show 8 ≤ nT T by omega) (by omega))] at st
    rw [if_neg z]
    obtain ⟨O2, e2, f2, g2⟩ := c_blame (d + 4) (f := 5) hk.2.2.1 (by decide) (by omega)
    rw [e2] at st
    exact ⟨O2, st, Fw.fx f2, g2⟩
theorem c_readWord (d : Nat) (hn : n ≤ 400) (hb : ∀ j, b j < 256) {O : Mem_} {k : Tk_} (h : CTp (O 3 0) (n, b)) (hk : CK O k) (wk : WTk b n k) (hD : CD (O 4 w) T) (hT : WT T) : ∃ O', ex (d + 6) 31 0 [some (vr 3 0 0), some (vr 4 w 0)] [] O = some (nI 0, O') ∧ Fw w O O' ∧ RL O' w (rdWord b n T k) := by
  have w1 := wk.1
  have w2 := wk.2.1
  have h4 := hT.2.2.1
  have h12 := hT.2.1
  have st := sX3_readWord_0 (d + 5) O w
  rw [hD.1.2.2.1] at st
  unfold rdWord
  by_cases z : nS T < 4
  · rw [if_pos (nI_lt z (by decide))] at st
    rw [if_pos z]
    obtain ⟨O1, e1, f1, r1⟩ := c_nextToken (d + 1) hn hb h wk.2.1 hk.1 hk.2.2.2.2
    have hD1 := hD.fx f1
    obtain ⟨x, O2, e2, f2, r2⟩ := RT.cn d hn hb (bd := nM T) (by omega) (h.fx f1) wk.2.1 r1
    obtain ⟨O3, e3, f3, r3⟩ := c_addSound (d + 4) (x := x) (hD1.fx f2) z
    rw [e1] at st
    simp only [Option.bind_some] at st
    rw [hD1.1.2.1, e2] at st
    simp only [Option.bind_some] at st
    rw [e3] at st
    refine ⟨O3, st, ((Fw.fx f1).trans (Fw.fx f2)).trans (Fw.ro f3), ?_⟩
    cases hq : nxt b n k.2.2 with
    | error er => rw [hq] at r2; exact CE.ro r2 f3.at3
    | ok k1 =>
      rw [hq] at r2
      have r2 : RV O2 x (tkN b n (nM T) k1) := r2
      show RL O3 w (bnd (tkN b n (nM T) k1) _)
      cases hq2 : tkN b n (nM T) k1 with
      | error er => rw [hq2] at r2; exact CE.ro r2 f3.at3
      | ok p => rw [hq2] at r2; exact ⟨CK.ro r2.2 f3.at3, r3 p.1 r2.1⟩
  · rw [if_neg (nI_nlt (show 4 ≤ nS T by omega) (by omega))] at st
    rw [if_neg z]
    obtain ⟨O2, e2, f2, g2⟩ := c_blame (d + 4) (f := 5) hk.2.2.1 (by decide) (by omega)
    rw [e2] at st
    exact ⟨O2, st, Fw.fx f2, g2⟩
theorem c_flt {O : Mem_} {e : Nat × Nat} (h : CE O e) : ¬ O 3 0 0 2 = nI 0 := by
  rw [h.1, nI_eq (by have := h.2.2.2.1; omega) (by decide)]
  have := h.2.2.1
  omega
/-- a meaning, and what the class does once it has read it: in the end, a line must end -/
def rdMeanC (b : Nat → Nat) (n : Nat) (T : Td_) (x : Nat) (k : Tk_) : Pr_ (Td_ × Tk_) := if codeK b k = some 13 then bnd (nxt b n k.2.2) fun k1 => bnd (tkL b n x k1) fun p => .ok (aM T x p.1, p.2) else .ok (aM T x 0, k)
theorem c_readMeaning (d : Nat) (hn : n ≤ 400) (hb : ∀ j, b j < 256) {O : Mem_} {k : Tk_} (h : CTp (O 3 0) (n, b)) (hk : CK O k) (wk : WTk b n k) (hD : CD (O 4 w) T) (hT : WT T) : ∃ O', ex (d + 6) 30 0 [some (vr 3 0 0), some (vr 4 w 0)] [] O = some (nI 0, O') ∧ Fw w O O' ∧ RL O' w (if nM T < 12 then bnd (nxt b n k.2.2) fun k1 => bnd (tkL b n 0 k1) fun p => rdMeanC b n T p.1 p.2 else .error (5, k.2.1)) := by
  have w1 := wk.1
  have w2 := wk.2.1
  have h12 := hT.2.1
  have st := sX3_readMeaning_0 (d + 5) O w
  rw [hD.1.2.1] at st
  by_cases z : nM T < 12
  · rw [if_pos (nI_lt z (by decide))] at st
    rw [if_pos z]
    obtain ⟨O1, e1, f1, r1⟩ := c_nextToken (d + 1) hn hb h wk.2.1 hk.1 hk.2.2.2.2
    have hD1 := hD.fx f1
    have h1 := h.fx f1
    obtain ⟨x, O2, e2, f2, r2⟩ := RT.cl d hn hb (fb := 0) (by decide) h1 wk.2.1 r1
    have hD2 := hD1.fx f2
    have h2 := h1.fx f2
    have F2 : Fw w O O2 := (Fw.fx f1).trans (Fw.fx f2)
    rw [e1] at st
    simp only [Option.bind_some] at st
    rw [e2] at st
    simp only [Option.bind_some] at st
    -- the end: the meaning is added
    have fin : ∀ O3 y, Fw w O O3 → CD (O3 4 w) T → ∃ O4, ex (d + 6) 30 53 [none, some (vr 4 w 0), some (vi x), some (vi y)] [] O3 = some (nI 0, O4) ∧ Fw w O O4 ∧ O4 3 = O3 3 ∧ ∀ u v, x = nI u → y = nI v → u < 256 → v < 256 → CD (O4 4 w) (aM T u v) := fun O3 y hF hD3 => by
      obtain ⟨O4, e4, f4, r4⟩ := c_addMeaning (d + 3) (x := x) (y := y) hD3 z
      refine ⟨O4, ?_, hF.trans (Fw.ro f4), f4.at3, r4⟩
      rw [sX3_readMeaning_53, e4]
      rfl
    have er : ∀ e, CE O2 e → ∃ O', ex (d + 6) 30 0 [some (vr 3 0 0), some (vr 4 w 0)] [] O = some (nI 0, O') ∧ Fw w O O' ∧ CE O' e := fun e he => by
      rw [if_neg (c_flt he)] at st
      obtain ⟨O4, e4, f4, q4, -⟩ := fin O2 (nI 0) F2 hD2
      exact ⟨O4, st.trans e4, f4, CE.ro he q4⟩
    cases hq : nxt b n k.2.2 with
    | error e => rw [hq] at r2; exact er e r2
    | ok k1 =>
      rw [hq] at r2
      have r2 : RV O2 x (tkL b n 0 k1) := r2
      have wk1 := (nxt_ok wk.2.1 hq).1
      show ∃ O', _ ∧ _ ∧ RL O' w (bnd (tkL b n 0 k1) fun p => rdMeanC b n T p.1 p.2)
      cases hq2 : tkL b n 0 k1 with
      | error e => rw [hq2] at r2; exact er e r2
      | ok p =>
        rw [hq2] at r2
        obtain ⟨hx, hk2⟩ := r2
        obtain ⟨v1, -, wk2, -⟩ := tkL_ok wk1 hq2
        show ∃ O', _ ∧ _ ∧ RL O' w (rdMeanC b n T p.1 p.2)
        unfold rdMeanC
        rw [hk2.2.2.2.2, if_pos rfl, show d + 5 = d + 3 + 2 from rfl, c_named (d + 3) hn hb h2 hk2 wk2 7 (by decide)] at st
        simp only [Option.bind_some] at st
        by_cases y : codeK b p.2 = some 13
        · rw [decide_eq_true (show codeK b p.2 = some ([10, 11, 12, 0, 1, 2, 3, 13, 14, 15, 16, 17].getD 7 0) from y), if_neg (show ¬ bI true = nI 0 by decide)] at st
          rw [if_pos y]
          obtain ⟨O3, e3, f3, r3⟩ := c_nextToken (d + 1) hn hb h2 wk2.2.1 hk2.1 hk2.2.2.2.2
          have h3 := h2.fx f3
          obtain ⟨x2, O4, e4, f4, r4⟩ := RT.cl d hn hb (fb := p.1) v1 h3 wk2.2.1 r3
          rw [show d + 3 + 2 = d + 1 + 4 from rfl, e3] at st
          simp only [Option.bind_some] at st
          rw [hx, show d + 1 + 4 = d + 5 from rfl, e4] at st
          simp only [Option.bind_some] at st
          obtain ⟨O5, e5, f5, q5, c5⟩ := fin O4 x2 ((F2.trans (Fw.fx f3)).trans (Fw.fx f4)) ((hD2.fx f3).fx f4)
          rw [hx] at e5
          refine ⟨O5, st.trans e5, f5, ?_⟩
          cases hq3 : nxt b n p.2.2.2 with
          | error e => rw [hq3] at r4; exact CE.ro r4 q5
          | ok k3 =>
            rw [hq3] at r4
            have r4 : RV O4 x2 (tkL b n p.1 k3) := r4
            have wk3 := (nxt_ok wk2.2.1 hq3).1
            show RL O5 w (bnd (tkL b n p.1 k3) _)
            cases hq4 : tkL b n p.1 k3 with
            | error e => rw [hq4] at r4; exact CE.ro r4 q5
            | ok q => rw [hq4] at r4; exact ⟨CK.ro r4.2 q5, c5 p.1 q.1 hx r4.1 v1 (tkL_ok wk3 hq4).1⟩
        · rw [decide_eq_false (show ¬ codeK b p.2 = some ([10, 11, 12, 0, 1, 2, 3, 13, 14, 15, 16, 17].getD 7 0) from y), if_pos bI_f] at st
          rw [if_neg y]
          obtain ⟨O5, e5, f5, q5, c5⟩ := fin O2 (nI 0) F2 hD2
          exact ⟨O5, st.trans e5, f5, CK.ro hk2 q5, c5 p.1 0 hx rfl v1 (by decide)⟩
  · rw [if_neg (nI_nlt (show 12 ≤ nM T by omega) (by omega))] at st
    rw [if_neg z]
    obtain ⟨O2, e2, f2, g2⟩ := c_blame (d + 4) (f := 5) hk.2.2.1 (by decide) (by omega)
    rw [e2] at st
    exact ⟨O2, st, Fw.fx f2, g2⟩
end
end
