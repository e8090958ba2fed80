/-! THE CLASS READS A TEXT: bytes, tokens, names. -/
section
/-- what reading changes of the tape -/
def Fx (O O' : Mem_) : Prop := Ro 3 0 O O' ∧ ∀ p j, p ≠ 0 ∨ (j ≠ 2 ∧ j ≠ 3 ∧ (j < 5 ∨ 8 < j)) → O' 3 0 p j = O 3 0 p j
def F5 (O O' : Mem_) : Prop := Ro 3 0 O O' ∧ ∀ p j, p ≠ 0 ∨ j ≠ 5 → O' 3 0 p j = O 3 0 p j
theorem Fx.rfl {O : Mem_} : Fx O O := ⟨Ro.rfl, fun _ _ _ => Eq.refl _⟩
theorem Fx.trans {O O' O2 : Mem_} (h : Fx O O') (g : Fx O' O2) : Fx O O2 := ⟨h.1.trans g.1, fun p j z => (g.2 p j z).trans (h.2 p j z)⟩
theorem Fx.up {j : Nat} {v : Int32} {O : Mem_} (hj : j = 2 ∨ j = 3 ∨ (5 ≤ j ∧ j ≤ 8)) : Fx O (up O 3 0 0 j v) := ⟨Ro.rfl.up, fun p q z => up_ne (by omega)⟩
theorem F5.rfl {O : Mem_} : F5 O O := ⟨Ro.rfl, fun _ _ _ => Eq.refl _⟩
theorem F5.trans {O O' O2 : Mem_} (h : F5 O O') (g : F5 O' O2) : F5 O O2 := ⟨h.1.trans g.1, fun p j z => (g.2 p j z).trans (h.2 p j z)⟩
theorem F5.up {v : Int32} {O : Mem_} : F5 O (up O 3 0 0 5 v) := ⟨Ro.rfl.up, fun p q z => up_ne (by omega)⟩
theorem F5.fx {O O' : Mem_} (h : F5 O O') : Fx O O' := ⟨h.1, fun p j z => h.2 p j (by omega)⟩
theorem CTp.fx {O O' : Mem_} {tp : Nat × (Nat → Nat)} (h : CTp (O 3 0) tp) (g : Fx O O') : CTp (O' 3 0) tp := ⟨(g.2 0 1 (by decide)).trans h.1, fun j hj => (g.2 1 j (by omega)).trans (h.2 j hj)⟩
theorem Fx.out {O O' : Mem_} (g : Fx O O') {c : Nat} (hc : c ≠ 3) : O' c = O c := funext fun n => g.1 c n (Or.inl hc)
/-- the token that stands -/
def CK (O : Mem_) (k : Tk_) : Prop := O 3 0 0 5 = nI k.2.2 ∧ O 3 0 0 6 = nI k.1 ∧ O 3 0 0 7 = nI k.2.1 ∧ O 3 0 0 8 = nI k.2.2 ∧ O 3 0 0 2 = nI 0
def CE (O : Mem_) (e : Nat × Nat) : Prop := O 3 0 0 2 = nI e.1 ∧ O 3 0 0 3 = nI e.2 ∧ 0 < e.1 ∧ e.1 < 6 ∧ e.2 ≤ 400
theorem CK.ro {O O' : Mem_} {k : Tk_} (h : CK O k) (e : O' 3 = O 3) : CK O' k := by
  unfold CK; rw [e]; exact h
theorem CE.ro {O O' : Mem_} {k : Nat × Nat} (h : CE O k) (e : O' 3 = O 3) : CE O' k := by
  unfold CE; rw [e]; exact h
section
variable {b : Nat → Nat} {n : Nat}
theorem c_byteAt (d : Nat) {O : Mem_} {i : Nat} (hn : n ≤ 400) (h : CTp (O 3 0) (n, b)) (hi : i < 1000) : ex (d + 1) 23 0 [some (vr 3 0 0), some (vi (nI i))] [] O = some (nI (if i < n then b i else 0), O) := by
  rw [sX3_byteAt_0, if_neg (nI_nlt (Nat.zero_le _) (by omega)), h.1]
  by_cases z : i < n
  · rw [if_pos (nI_lt z (by omega)), if_pos (nI_lt (show i < 400 by omega) (by decide)), if_pos (ib_n (by omega) (by decide)), nI_clamp (by omega), h.2 i z, if_pos z]
  · rw [if_neg (nI_nlt (show n ≤ i by omega) (by omega)), if_neg z]
theorem c_tokenAt (d : Nat) {O : Mem_} {i : Nat} (hn : n ≤ 400) (hb : ∀ j, b j < 256) (h : CTp (O 3 0) (n, b)) (hi : i < 1000) : ex (d + 2) 24 0 [some (vr 3 0 0), some (vi (nI i))] [] O = some (nI (cls b n i), O) := by
  have hbi := hb i
  rw [sX3_tokenAt_0, c_byteAt d hn h hi]
  simp only [Option.bind_some]
  rw [h.1]
  unfold cls
  by_cases z : i < n
  · rw [if_pos (nI_lt z (by omega)), if_pos z, if_pos z]
    have e44 : ex (d + 2) 24 44 [none, none, some (vi (nI (b i)))] [] O = some (nI (if b i = 59 then 3 else if b i = 45 then 4 else 5), O) := by
      rw [sX3_tokenAt_44]
      by_cases z1 : b i = 59
      · rw [if_pos (by rw [z1]), if_pos z1]
      · rw [if_neg (by rw [nI_eq (by omega) (by decide)]; exact z1), if_neg z1]
        by_cases z2 : b i = 45
        · rw [if_pos (by rw [z2]), if_pos z2]
        · rw [if_neg (by rw [nI_eq (by omega) (by decide)]; exact z2), if_neg z2]
    have e30 : ex (d + 2) 24 30 [none, none, some (vi (nI (b i)))] [] O = some (nI (if 48 ≤ b i ∧ b i ≤ 57 then 2 else if b i = 59 then 3 else if b i = 45 then 4 else 5), O) := by
      rw [sX3_tokenAt_30]
      by_cases z1 : b i < 48
      · rw [if_pos (nI_lt z1 (by omega)), if_neg (by omega), e44]
      · rw [if_neg (nI_nlt (show 48 ≤ b i by omega) (by omega))]
        by_cases z2 : 57 < b i
        · rw [if_pos (nI_lt z2 (by omega)), if_neg (by omega), e44]
        · rw [if_neg (nI_nlt (show b i ≤ 57 by omega) (by omega)), if_pos (by omega)]
    by_cases z1 : b i < 97
    · rw [if_pos (nI_lt z1 (by omega)), if_neg (by omega), e30]
    · rw [if_neg (nI_nlt (show 97 ≤ b i by omega) (by omega))]
      by_cases z2 : 122 < b i
      · rw [if_pos (nI_lt z2 (by omega)), if_neg (by omega), e30]
      · rw [if_neg (nI_nlt (show b i ≤ 122 by omega) (by omega)), if_pos (by omega)]
  · rw [if_neg (nI_nlt (show n ≤ i by omega) (by omega)), if_neg z]
theorem c_skip (d : Nat) (hn : n ≤ 400) (hb : ∀ j, b j < 256) : ∀ (k i : Nat) (O : Mem_), n - i = k → i ≤ n → CTp (O 3 0) (n, b) → O 3 0 0 5 = nI i → ∃ O', ex (d + 2) 25 0 [some (vr 3 0 0)] [] O = ex (d + 2) 25 37 [some (vr 3 0 0)] [] O' ∧ F5 O O' ∧ O' 3 0 0 5 = nI (run (fun j => decide (j < n) && b j == 32) k i)
  | 0, i, O, hk, hi, h, h5 => by
    refine ⟨O, (sX3_nextToken_0 ..).trans ?_, F5.rfl, h5⟩
    rw [h5, h.1, if_neg (nI_nlt (show n ≤ i by omega) (by omega))]
  | k + 1, i, O, hk, hi, h, h5 => by
    have st := sX3_nextToken_0 (d + 1) O
    rw [h5, h.1, if_pos (nI_lt (show i < n by omega) (by omega)), c_byteAt d hn h (by omega), if_pos (show i < n by omega)] at st
    simp only [Option.bind_some] at st
    unfold run
    by_cases z : b i = 32
    · rw [if_pos (by rw [z]), h5, nI_add] at st
      obtain ⟨O', e, f, g⟩ := c_skip d hn hb k (i + 1) (up O 3 0 0 5 (nI (i + 1))) (by omega) (by omega) (h.fx (F5.up.fx)) (up_eq ..)
      rw [if_pos (by rw [z, decide_eq_true (show i < n by omega)]; rfl)]
      exact ⟨O', st.trans e, F5.up.trans f, g⟩
    · have hbi := hb i
      rw [if_neg (by rw [Bool.and_eq_true]; intro q; exact z (by simpa using q.2))]
      rw [if_neg (by rw [nI_eq (by omega) (by decide)]; exact z)] at st
      exact ⟨O, st, F5.rfl, h5⟩
theorem c_more (d : Nat) (hn : n ≤ 400) (hb : ∀ j, b j < 256) {c : Nat} (hc : c = 1 ∨ c = 2) : ∀ (k i : Nat) (O : Mem_), n - i = k → i ≤ n → CTp (O 3 0) (n, b) → O 3 0 0 5 = nI i → O 3 0 0 6 = nI c → ∃ O', ex (d + 3) 25 74 [some (vr 3 0 0)] [] O = ex (d + 3) 25 129 [some (vr 3 0 0)] [] O' ∧ F5 O O' ∧ O' 3 0 0 5 = nI (run (fun j => cls b n j == c) k i)
  | 0, i, O, hk, hi, h, h5, h6 => by
    refine ⟨O, (sX3_nextToken_74 ..).trans ?_, F5.rfl, h5⟩
    rw [h5, h.1, if_neg (nI_nlt (show n ≤ i by omega) (by omega))]
  | k + 1, i, O, hk, hi, h, h5, h6 => by
    have hci := cls_lt (b := b) (n := n) i
    have st : ex (d + 3) 25 74 [some (vr 3 0 0)] [] O = ex (d + 3) 25 101 [some (vr 3 0 0)] [] O := by
      rw [sX3_nextToken_74, h5, h.1, if_pos (nI_lt (show i < n by omega) (by omega)), h6]
      rcases hc with rfl | rfl
      · rw [if_pos rfl]
      · rw [if_neg (by decide), if_pos rfl]
    have s2 := sX3_nextToken_101 (d + 2) O
    rw [h5, c_tokenAt d hn hb h (by omega)] at s2
    simp only [Option.bind_some] at s2
    rw [h5, h6, nI_add] at s2
    unfold run
    by_cases z : cls b n i = c
    · rw [if_pos (by rw [z])] at s2
      obtain ⟨O', e, f, g⟩ := c_more d hn hb hc k (i + 1) (up O 3 0 0 5 (nI (i + 1))) (by omega) (by omega) (h.fx (F5.up.fx)) (up_eq ..) ((up_ne (by decide)).trans h6)
      rw [if_pos (by rw [z]; exact beq_self_eq_true c)]
      exact ⟨O', (st.trans s2).trans e, F5.up.trans f, g⟩
    · rw [if_neg (by rw [nI_eq (by omega) (by omega)]; exact z)] at s2
      rw [if_neg (by intro q; exact z (by simpa using q))]
      exact ⟨O, st.trans s2, F5.rfl, h5⟩
theorem c_blame (d : Nat) {O : Mem_} {f s : Nat} (h7 : O 3 0 0 7 = nI s) (hf : 0 < f ∧ f < 6) (hs : s ≤ 400) : ∃ O', ex (d + 1) 22 0 [some (vr 3 0 0), some (vi (nI f))] [] O = some (nI 0, O') ∧ Fx O O' ∧ CE O' (f, s) := by
  refine ⟨_, sX3_blame_0 .., (Fx.up (by decide)).trans (Fx.up (by decide)), ?_, ?_, hf.1, hf.2, hs⟩
  · exact (up_ne (by decide)).trans (up_eq ..)
  · exact (up_eq ..).trans ((up_ne (by decide)).trans h7)
/-- what nextToken leaves -/
def RT (O : Mem_) (r : Pr_ Tk_) : Prop := match r with
  | .ok k => CK O k
  | .error e => CE O e
theorem c_nextToken (d : Nat) (hn : n ≤ 400) (hb : ∀ j, b j < 256) {O : Mem_} {e : Nat} (h : CTp (O 3 0) (n, b)) (he : e ≤ n) (h5 : O 3 0 0 5 = nI e) (h2 : O 3 0 0 2 = nI 0) : ∃ O', ex (d + 4) 25 0 [some (vr 3 0 0)] [] O = some (nI 0, O') ∧ Fx O O' ∧ RT O' (nxt b n e) := by
  obtain ⟨O1, e1, f1, g1⟩ := c_skip (d + 2) hn hb (n - e) e O rfl he h h5
  have g1 : O1 3 0 0 5 = nI (skp b n e) := g1
  have hs := skp_ge (b := b) he
  have h1 := h.fx f1.fx
  have h12 : O1 3 0 0 2 = nI 0 := (f1.2 0 2 (by decide)).trans h2
  -- the token's first byte
  have st : ex (d + 4) 25 37 [some (vr 3 0 0)] [] O1 = ex (d + 4) 25 74 [some (vr 3 0 0)] [] (if cls b n (skp b n e) = 0 then up (up O1 3 0 0 7 (nI (skp b n e))) 3 0 0 6 (nI (cls b n (skp b n e))) else up (up (up O1 3 0 0 7 (nI (skp b n e))) 3 0 0 6 (nI (cls b n (skp b n e)))) 3 0 0 5 (nI (skp b n e + 1))) := by
    have hc := cls_lt (b := b) (n := n) (skp b n e)
    rw [sX3_nextToken_37, up_ne (by decide), g1, c_tokenAt (d + 1) hn hb (h1.fx (Fx.up (by decide))) (by omega)]
    simp only [Option.bind_some]
    rw [up_eq]
    by_cases z : cls b n (skp b n e) = 0
    · rw [if_pos (by rw [z]), if_pos z]
    · rw [if_neg (by rw [nI_eq (by omega) (by decide)]; exact z), if_neg z, up_ne (by decide), up_ne (by decide), g1, nI_add]
  have hM : ∃ O2, (if cls b n (skp b n e) = 0 then up (up O1 3 0 0 7 (nI (skp b n e))) 3 0 0 6 (nI (cls b n (skp b n e))) else up (up (up O1 3 0 0 7 (nI (skp b n e))) 3 0 0 6 (nI (cls b n (skp b n e)))) 3 0 0 5 (nI (skp b n e + 1))) = O2 ∧ Fx O1 O2 ∧ O2 3 0 0 2 = nI 0 ∧ O2 3 0 0 5 = nI (if cls b n (skp b n e) = 0 then skp b n e else skp b n e + 1) ∧ O2 3 0 0 6 = nI (cls b n (skp b n e)) ∧ O2 3 0 0 7 = nI (skp b n e) := by
    refine ⟨_, rfl, ?_⟩
    by_cases z : cls b n (skp b n e) = 0
    · rw [if_pos z, if_pos z]
      refine ⟨(Fx.up (by decide)).trans (Fx.up (by decide)), ?_, ?_, up_eq .., ?_⟩
      · rw [up_ne (by decide), up_ne (by decide)]; exact h12
      · rw [up_ne (by decide), up_ne (by decide)]; exact g1
      · rw [up_ne (by decide), up_eq]
    · rw [if_neg z, if_neg z]
      refine ⟨((Fx.up (by decide)).trans (Fx.up (by decide))).trans (Fx.up (by decide)), ?_, up_eq .., ?_, ?_⟩
      · rw [up_ne (by decide), up_ne (by decide), up_ne (by decide)]; exact h12
      · rw [up_ne (by decide), up_eq]
      · rw [up_ne (by decide), up_ne (by decide), up_eq]
  obtain ⟨O2, q2, f2, z2, z5, z6, z7⟩ := hM
  rw [q2] at st
  have h2' := h1.fx f2
  have hin := @cls_in b n (skp b n e)
  have hM3 : ∃ O3, ex (d + 4) 25 74 [some (vr 3 0 0)] [] O2 = ex (d + 4) 25 129 [some (vr 3 0 0)] [] O3 ∧ F5 O2 O3 ∧ O3 3 0 0 5 = nI (ste b n (skp b n e)) := by
    by_cases z : cls b n (skp b n e) = 1 ∨ cls b n (skp b n e) = 2
    · have hlt := hin (by omega)
      rw [if_neg (by omega)] at z5
      obtain ⟨O3, e3, f3, g3⟩ := c_more (d + 1) hn hb z (n - (skp b n e + 1)) (skp b n e + 1) O2 rfl (by omega) h2' z5 z6
      refine ⟨O3, e3, f3, ?_⟩
      rw [g3]
      unfold ste
      rw [if_neg (by omega), if_pos z]
    · refine ⟨O2, ?_, F5.rfl, ?_⟩
      · rw [sX3_nextToken_74, z5, h2'.1, z6]
        have hc := cls_lt (b := b) (n := n) (skp b n e)
        have n1 : ¬ nI (cls b n (skp b n e)) = nI 1 := by rw [nI_eq (by omega) (by decide)]; omega
        have n2 : ¬ nI (cls b n (skp b n e)) = nI 2 := by rw [nI_eq (by omega) (by decide)]; omega
        rw [if_neg n1, if_neg n2, ite_self]
      · rw [z5]
        unfold ste
        by_cases y : cls b n (skp b n e) = 0
        · rw [if_pos y, if_pos y]
        · rw [if_neg y, if_neg y, if_neg z]
  obtain ⟨O3, e3, f3, g3⟩ := hM3
  have y2 : O3 3 0 0 2 = nI 0 := (f3.2 0 2 (by decide)).trans z2
  have y6 : O3 3 0 0 6 = nI (cls b n (skp b n e)) := (f3.2 0 6 (by decide)).trans z6
  have y7 : O3 3 0 0 7 = nI (skp b n e) := (f3.2 0 7 (by decide)).trans z7
  have fx4 : Fx O (up O3 3 0 0 8 (nI (ste b n (skp b n e)))) := ((f1.fx.trans f2).trans f3.fx).trans (Fx.up (by decide))
  have hk : CK (up O3 3 0 0 8 (nI (ste b n (skp b n e)))) (tok b n e) := ⟨(up_ne (by decide)).trans g3, (up_ne (by decide)).trans y6, (up_ne (by decide)).trans y7, up_eq .., (up_ne (by decide)).trans y2⟩
  have hc := cls_lt (b := b) (n := n) (skp b n e)
  have hste : ste b n (skp b n e) ≤ n + 1 := by
    unfold ste
    have := run_ge (p := fun j => cls b n j == cls b n (skp b n e)) (n - (skp b n e + 1)) (skp b n e + 1)
    repeat' split
    · omega
    · have := hin (by omega); omega
    · omega
  have hste2 : skp b n e ≤ ste b n (skp b n e) := by
    unfold ste
    have := run_ge (p := fun j => cls b n j == cls b n (skp b n e)) (n - (skp b n e + 1)) (skp b n e + 1)
    repeat' split
    · omega
    · omega
    · omega
  have s4 : ex (d + 4) 25 129 [some (vr 3 0 0)] [] O3 = if bad (tok b n e) = true then ex (d + 4) 25 166 [some (vr 3 0 0)] [] (up O3 3 0 0 8 (nI (ste b n (skp b n e)))) else some (nI 0, up O3 3 0 0 8 (nI (ste b n (skp b n e)))) := by
    rw [sX3_nextToken_129, g3, hk.2.1, hk.2.2.1, hk.2.2.2.1]
    have e1 : (nI (tok b n e).1 = nI 5) ↔ (tok b n e).1 = 5 := nI_eq (show cls b n (skp b n e) < 2 ^ 31 by omega) (by decide)
    have e2 : (nI (tok b n e).1 = nI 2) ↔ (tok b n e).1 = 2 := nI_eq (show cls b n (skp b n e) < 2 ^ 31 by omega) (by decide)
    have e3 : (nI 2 < nI (tok b n e).2.2 - nI (tok b n e).2.1) ↔ 2 < (tok b n e).2.2 - (tok b n e).2.1 := by
      show (nI 2 < nI (ste b n (skp b n e)) - nI (skp b n e)) ↔ _
      rw [pk_sub hste2]
      exact nI_ltI (by decide) (by omega)
    simp only [e1, e2, e3]
    unfold bad
    by_cases a1 : (tok b n e).1 = 5
    · rw [if_pos a1, if_pos (by simp [a1])]
    · by_cases a2 : (tok b n e).1 = 2
      · by_cases a3 : 2 < (tok b n e).2.2 - (tok b n e).2.1
        · rw [if_neg a1, if_pos a2, if_pos a3, if_pos (by simp [a2, a3])]
        · rw [if_neg a1, if_pos a2, if_neg a3, if_neg (by simp [a1, a2]; omega)]
      · rw [if_neg a1, if_neg a2, if_neg (by simp [a1, a2])]
  have tot := ((e1.trans st).trans e3).trans s4
  unfold nxt
  by_cases z : bad (tok b n e) = true
  · rw [if_pos z] at tot
    rw [if_pos z]
    obtain ⟨O5, e5, f5, g5⟩ := c_blame (d + 2) (f := 1) hk.2.2.1 (by decide) (show skp b n e ≤ 400 by omega)
    refine ⟨O5, tot.trans ((sX3_nextToken_166 ..).trans ?_), fx4.trans f5, g5⟩
    rw [e5]
    rfl
  · rw [if_neg z] at tot
    rw [if_neg z]
    exact ⟨_, tot, fx4, hk⟩
theorem wrd_iff {k : Tk_} {w : List Nat} (hl : k.2.2 - k.2.1 = w.length) : wrd b k = w ↔ ∀ q, q < w.length → b (k.2.1 + q) = w.getD q 0 := by
  unfold wrd
  constructor
  · intro h q hq
    have : ((List.range (k.2.2 - k.2.1)).map fun i => b (k.2.1 + i)).getD q 0 = w.getD q 0 := by rw [h]
    rw [List.getD_eq_getElem?_getD, List.getElem?_map, List.getElem?_range (by omega)] at this
    exact this
  · intro h
    apply List.ext_getElem
    · rw [List.length_map, List.length_range, hl]
    · intro q h1 h2
      have := h q h2
      rw [List.getElem_map, List.getElem_range, this, List.getD_eq_getElem?_getD, List.getElem?_eq_getElem h2]
      rfl
theorem c_isNamed (d : Nat) (hn : n ≤ 400) (hb : ∀ j, b j < 256) {O : Mem_} {k : Tk_} {w : List Nat} {j : Nat} (hw : sT.getD j [] = w.map nI) (hwl : w.length ≤ 7) (hwb : ∀ q, w.getD q 0 < 256) (h : CTp (O 3 0) (n, b)) (hk : CK O k) (wk : WTk b n k) : ex (d + 2) 26 0 [some (vr 3 0 0), some (vr 9 j 0)] [] O = some (bI (decide (k.1 = 1 ∧ wrd b k = w)), O) := by
  obtain ⟨k5, k6, k7, k8, k2⟩ := hk
  have w1 := wk.1
  have w2 := wk.2.1
  have w3 := wk.2.2.1
  have hlen : (sT.getD j []).length = w.length := by rw [hw, List.length_map]
  rw [sX3_isNamed_0, k6, k8, k7, hlen, pk_sub w1]
  by_cases z1 : k.1 = 1
  · rw [if_pos (by rw [z1])]
    by_cases z2 : k.2.2 - k.2.1 = w.length
    · rw [if_pos (by rw [z2])]
      have key : ∀ r i, i + r = w.length → ex (d + 2) 26 28 [some (vr 3 0 0), some (vr 9 j 0), some (vi (nI i))] [] O = some (bI ((List.range' i r).all fun q => b (k.2.1 + q) == w.getD q 0), O) := by
        intro r
        induction r with
        | zero =>
          intro i hi
          refine (sX3_isNamed_28 ..).trans ?_
          rw [hlen, if_neg (nI_nlt (show w.length ≤ i by omega) (by omega))]
          rfl
        | succ r ih =>
          intro i hi
          refine (sX3_isNamed_28 ..).trans ?_
          have hbi := hb (k.2.1 + i)
          have hwi := hwb i
          have hg : (sT.getD j []).getD i 0 = nI (w.getD i 0) := by
            rw [hw, List.getD_eq_getElem?_getD, List.getElem?_map, List.getElem?_eq_getElem (show i < w.length by omega), List.getD_eq_getElem?_getD, List.getElem?_eq_getElem (show i < w.length by omega)]
            rfl
          rw [hlen, if_pos (nI_lt (show i < w.length by omega) (by omega)), if_pos (ib_n (by omega) (by omega)), nI_clamp (by omega), hg]
          simp only [Option.bind_some]
          rw [k7, nI_add, c_byteAt d hn h (by omega), if_pos (show k.2.1 + i < n by omega)]
          simp only [Option.bind_some]
          by_cases z : b (k.2.1 + i) = w.getD i 0
          · rw [if_pos (by rw [z]), nI_add, ih (i + 1) (by omega), List.range'_succ, List.all_cons, z, beq_self_eq_true, Bool.true_and]
          · rw [if_neg (by rw [nI_eq (by omega) (by omega)]; exact fun e => z e.symm), List.range'_succ, List.all_cons, beq_false_of_ne z, Bool.false_and]
            rfl
      rw [key w.length 0 (by omega)]
      congr 3
      rw [Bool.eq_iff_iff, decide_eq_true_eq, wrd_iff z2, List.all_eq_true, ← List.range_eq_range']
      exact ⟨fun g => ⟨z1, fun q hq => by simpa using g q (List.mem_range.mpr hq)⟩, fun g q hq => by simpa using g.2 q (List.mem_range.mp hq)⟩
    · rw [if_neg (by rw [nI_eq (by omega) (by omega)]; exact fun e => z2 e.symm), decide_eq_false]
      · rfl
      · rintro ⟨-, g⟩
        apply z2
        rw [← g]
        unfold wrd
        rw [List.length_map, List.length_range]
  · rw [if_neg (by rw [nI_eq (by omega) (by decide)]; exact z1), decide_eq_false (fun g => z1 g.1)]
    rfl
theorem w_lt {w : List Nat} (h : w.all (fun x => decide (x < 256)) = true) (q : Nat) : w.getD q 0 < 256 := by
  rw [List.getD_eq_getElem?_getD]
  by_cases z : q < w.length
  · rw [List.getElem?_eq_getElem z]
    have := List.all_eq_true.mp h w[q] (List.getElem_mem z)
    simpa using this
  · rw [List.getElem?_eq_none (by omega)]
    exact Nat.zero_lt_succ _
theorem codeW_cases (w : List Nat) : (codeW w = some 0 ↔ w = w_plain) ∧ (codeW w = some 1 ↔ w = w_last) ∧ (codeW w = some 2 ↔ w = w_careful) ∧ (codeW w = some 3 ↔ w = w_proud) ∧ (codeW w = some 10 ↔ w = w_thing) ∧ (codeW w = some 11 ↔ w = w_means) ∧ (codeW w = some 12 ↔ w = w_word) ∧ (codeW w = some 13 ↔ w = w_not) ∧ (codeW w = some 14 ↔ w = w_sees) ∧ (codeW w = some 15 ↔ w = w_fears) ∧ (codeW w = some 16 ↔ w = w_unlike) ∧ (codeW w = some 17 ↔ w = w_chance) := by
  unfold codeW
  by_cases h0 : w = w_plain
  · subst h0; decide
  by_cases h1 : w = w_last
  · subst h1; decide
  by_cases h2 : w = w_careful
  · subst h2; decide
  by_cases h3 : w = w_proud
  · subst h3; decide
  by_cases h4 : w = w_thing
  · subst h4; decide
  by_cases h5 : w = w_means
  · subst h5; decide
  by_cases h6 : w = w_word
  · subst h6; decide
  by_cases h7 : w = w_not
  · subst h7; decide
  by_cases h8 : w = w_sees
  · subst h8; decide
  by_cases h9 : w = w_fears
  · subst h9; decide
  by_cases h10 : w = w_unlike
  · subst h10; decide
  by_cases h11 : w = w_chance
  · subst h11; decide
  simp [h0, h1, h2, h3, h4, h5, h6, h7, h8, h9, h10, h11]
theorem codeW_some {w : List Nat} {c : Nat} (h : codeW w = some c) : c = 0 ∨ c = 1 ∨ c = 2 ∨ c = 3 ∨ c = 10 ∨ c = 11 ∨ c = 12 ∨ c = 13 ∨ c = 14 ∨ c = 15 ∨ c = 16 ∨ c = 17 := by
  unfold codeW at h
  repeat' split at h
  all_goals cases h
  all_goals decide
theorem codeK_iff {k : Tk_} {c : Nat} {w : List Nat} (h : codeW (wrd b k) = some c ↔ wrd b k = w) : (k.1 = 1 ∧ wrd b k = w) ↔ codeK b k = some c := by
  unfold codeK
  by_cases z : k.1 = 1
  · rw [if_pos z, h]; exact ⟨fun g => g.2, fun g => ⟨z, g⟩⟩
  · rw [if_neg z]; exact ⟨fun g => absurd g.1 z, fun g => by cases g⟩
/-- a name by its number among the words -/
theorem c_named (d : Nat) (hn : n ≤ 400) (hb : ∀ j, b j < 256) {O : Mem_} {k : Tk_} (h : CTp (O 3 0) (n, b)) (hk : CK O k) (wk : WTk b n k) : ∀ j, j < 12 → ex (d + 2) 26 0 [some (vr 3 0 0), some (vr 9 j 0)] [] O = some (bI (decide (codeK b k = some ([10, 11, 12, 0, 1, 2, 3, 13, 14, 15, 16, 17].getD j 0))), O) := by
  obtain ⟨q0, q1, q2, q3, q10, q11, q12, q13, q14, q15, q16, q17⟩ := codeW_cases (wrd b k)
  have go : ∀ (j c : Nat) (w : List Nat), sT.getD j [] = w.map nI → w.length ≤ 7 → w.all (fun x => decide (x < 256)) = true → (codeW (wrd b k) = some c ↔ wrd b k = w) → ex (d + 2) 26 0 [some (vr 3 0 0), some (vr 9 j 0)] [] O = some (bI (decide (codeK b k = some c)), O) := fun j c w h1 h2 h3 h4 => by
    rw [c_isNamed d hn hb h1 h2 (w_lt h3) h hk wk]
    congr 3
    rw [decide_eq_decide]
    exact codeK_iff h4
  intro j hj
  rcases (by omega : j = 0 ∨ j = 1 ∨ j = 2 ∨ j = 3 ∨ j = 4 ∨ j = 5 ∨ j = 6 ∨ j = 7 ∨ j = 8 ∨ j = 9 ∨ j = 10 ∨ j = 11) with rfl | rfl | rfl | rfl | rfl | rfl | rfl | rfl | rfl | rfl | rfl | rfl
  · exact go 0 10 w_thing (by decide) (by decide) (by decide) q10
  · exact go 1 11 w_means (by decide) (by decide) (by decide) q11
  · exact go 2 12 w_word (by decide) (by decide) (by decide) q12
  · exact go 3 0 w_plain (by decide) (by decide) (by decide) q0
  · exact go 4 1 w_last (by decide) (by decide) (by decide) q1
  · exact go 5 2 w_careful (by decide) (by decide) (by decide) q2
  · exact go 6 3 w_proud (by decide) (by decide) (by decide) q3
  · exact go 7 13 w_not (by decide) (by decide) (by decide) q13
  · exact go 8 14 w_sees (by decide) (by decide) (by decide) q14
  · exact go 9 15 w_fears (by decide) (by decide) (by decide) q15
  · exact go 10 16 w_unlike (by decide) (by decide) (by decide) q16
  · exact go 11 17 w_chance (by decide) (by decide) (by decide) q17
end
end
