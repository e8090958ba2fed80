/-! THE MODEL READS A TEXT: bytes, tokens. -/
section
/-- what reading changes of the model -/
def Mx (O O' : Mem_) : Prop := Ro 7 0 O O' ∧ ∀ p j, p ≠ 0 ∨ j < 21 ∨ 26 < j → O' 7 0 p j = O 7 0 p j
theorem Mx.rfl {O : Mem_} : Mx O O := ⟨Ro.rfl, fun _ _ _ => Eq.refl _⟩
theorem Mx.trans {O O' O2 : Mem_} (h : Mx O O') (g : Mx O' O2) : Mx O O2 := ⟨h.1.trans g.1, fun p j z => (g.2 p j z).trans (h.2 p j z)⟩
theorem Mx.up {j : Nat} {v : Int32} {O : Mem_} (hj : 21 ≤ j ∧ j ≤ 26) : Mx O (up O 7 0 0 j v) := ⟨Ro.rfl.up, fun p q z => up_ne (by omega)⟩
theorem MTp.mx {O O' : Mem_} {tp : Nat × (Nat → Nat)} (h : MTp (O 7 0) tp) (g : Mx O O') : MTp (O' 7 0) tp := ⟨(g.2 0 20 (by decide)).trans h.1, fun j hj => (g.2 20 j (by omega)).trans (h.2 j hj)⟩
/-- the token that stands -/
def MK (b : Nat → Nat) (O : Mem_) (k : Tk_) : Prop := O 7 0 0 21 = nI k.2.2 ∧ O 7 0 0 22 = nI k.2.1 ∧ O 7 0 0 23 = nI k.1 ∧ (k.1 = 2 → O 7 0 0 24 = nI (nmv b k)) ∧ O 7 0 0 25 = nI 0
def ME (O : Mem_) (e : Nat × Nat) : Prop := O 7 0 0 25 = nI e.1 ∧ O 7 0 0 26 = nI e.2 ∧ 0 < e.1 ∧ e.1 < 6 ∧ e.2 ≤ 400
def lkb (b : Nat → Nat) (n i : Nat) : Int32 := if i < n then nI (b i) else -1
section
variable {b : Nat → Nat} {n : Nat}
theorem n_look (d : Nat) {O : Mem_} {i : Nat} (hn : n ≤ 400) (h : MTp (O 7 0) (n, b)) (hi : i < 1000) : ex (d + 1) 129 0 [some (vr 7 0 0), some (vi (nI i))] [] O = some (lkb b n i, O) := by
  rw [sX7_look_0, h.1]
  unfold lkb
  by_cases z : i < n
  · rw [if_pos (nI_lt z (by omega)), if_pos (ib_n (by omega) (by decide)), nI_clamp (by omega), h.2 i z, if_pos z]
  · rw [if_neg (nI_nlt (show n ≤ i by omega) (by omega)), if_neg z]
theorem lk_1 (hb : ∀ j, b j < 256) (i : Nat) : inI (lkb b n i) (nI 97) (nI 122) = decide (cls b n i = 1) := by
  have hbi := hb i
  unfold lkb cls
  by_cases z : i < n
  · rw [if_pos z, if_pos z, inI_n (by omega) (by decide) (by decide), ← Bool.decide_and, decide_eq_decide]
    by_cases y : 97 ≤ b i ∧ b i ≤ 122
    · rw [if_pos y]; exact ⟨fun _ => rfl, fun _ => y⟩
    · rw [if_neg y]
      refine ⟨fun q => absurd q y, fun q => ?_⟩
      exfalso
      revert q
      repeat' split
      all_goals decide
  · rw [if_neg z, if_neg z]
    decide
theorem lk_2 (hb : ∀ j, b j < 256) (i : Nat) : inI (lkb b n i) (nI 48) (nI 57) = decide (cls b n i = 2) := by
  have hbi := hb i
  unfold lkb cls
  by_cases z : i < n
  · rw [if_pos z, if_pos z, inI_n (by omega) (by decide) (by decide), ← Bool.decide_and, decide_eq_decide]
    by_cases x : 97 ≤ b i ∧ b i ≤ 122
    · rw [if_pos x]
      exact ⟨fun q => by omega, fun q => by omega⟩
    · rw [if_neg x]
      by_cases y : 48 ≤ b i ∧ b i ≤ 57
      · rw [if_pos y]; exact ⟨fun _ => rfl, fun _ => y⟩
      · rw [if_neg y]
        refine ⟨fun q => absurd q y, fun q => ?_⟩
        exfalso
        revert q
        repeat' split
        all_goals decide
  · rw [if_neg z, if_neg z]
    decide
theorem lk_eq (hb : ∀ j, b j < 256) {i c : Nat} (hc : c < 256) : lkb b n i = nI c ↔ (i < n ∧ b i = c) := by
  have hbi := hb i
  unfold lkb
  by_cases z : i < n
  · rw [if_pos z, nI_eq (by omega) (by omega)]; exact ⟨fun h => ⟨z, h⟩, fun h => h.2⟩
  · rw [if_neg z]
    refine ⟨fun h => ?_, fun h => absurd h.1 z⟩
    exfalso
    have : ¬ nI c < nI 0 := nI_nlt (Nat.zero_le _) (by omega)
    rw [← h] at this
    exact this (by decide)
theorem lk_neg (hb : ∀ j, b j < 256) {i : Nat} : lkb b n i < nI 0 ↔ n ≤ i := by
  have hbi := hb i
  unfold lkb
  by_cases z : i < n
  · rw [if_pos z]
    exact ⟨fun h => absurd h (nI_nlt (Nat.zero_le _) (by omega)), fun h => by omega⟩
  · rw [if_neg z]
    exact ⟨fun _ => by omega, fun _ => by decide⟩
theorem n_needs_t (d : Nat) {O : Mem_} {x : Int32} : ex (d + 1) 128 0 [some (vr 7 0 0), some (vi (nI 1)), some (vi x)] [] O = some (nI 0, O) := by
  rw [sX7_needs_0, if_neg (by decide)]
theorem n_needs_f (d : Nat) {O : Mem_} {f s : Nat} (h0 : O 7 0 0 25 = nI 0) (h : O 7 0 0 22 = nI s) (hf : 0 < f ∧ f < 6) (hs : s ≤ 400) : ∃ O', ex (d + 1) 128 0 [some (vr 7 0 0), some (vi (nI 0)), some (vi (nI f))] [] O = some (nI 0, O') ∧ Mx O O' ∧ ME O' (f, s) ∧ (∀ j, j ≠ 25 → j ≠ 26 → O' 7 0 0 j = O 7 0 0 j) := by
  refine ⟨up (up O 7 0 0 25 (nI f)) 7 0 0 26 (nI s), ?_, (Mx.up (by decide)).trans (Mx.up (by decide)), ⟨?_, up_eq .., hf.1, hf.2, hs⟩, fun j a c => ?_⟩
  · rw [sX7_needs_0, if_pos rfl, if_pos h0, up_ne (by decide), h]
  · rw [up_ne (by decide), up_eq]
  · rw [up_ne (by omega), up_ne (by omega)]
theorem n_flt {O : Mem_} {e : Nat × Nat} (h : ME O e) : ¬ O 7 0 0 25 = nI 0 := by
  rw [h.1, nI_eq (by have := h.2.2.2.1; omega) (by decide)]
  have := h.2.2.1
  omega
theorem n_fgt {O : Mem_} {e : Nat × Nat} (h : ME O e) : nI 0 < O 7 0 0 25 := by
  rw [h.1]
  exact nI_lt h.2.2.1 (by have := h.2.2.2.1; omega)
theorem n_needs_e (d : Nat) {O : Mem_} {x y : Int32} {e : Nat × Nat} (h : ME O e) : ex (d + 1) 128 0 [some (vr 7 0 0), some (vi y), some (vi x)] [] O = some (nI 0, O) := by
  rw [sX7_needs_0, if_neg (n_flt h), ite_self]
theorem n_nextT_e (d : Nat) {O : Mem_} {e : Nat × Nat} (h : ME O e) : ex (d + 1) 134 0 [some (vr 7 0 0)] [] O = some (nI 0, O) := by
  rw [sX7_next_0, if_pos (n_fgt h)]
/-- only the place is changed -/
def M1 (O O' : Mem_) : Prop := Ro 7 0 O O' ∧ ∀ p j, p ≠ 0 ∨ j ≠ 21 → O' 7 0 p j = O 7 0 p j
theorem M1.rfl {O : Mem_} : M1 O O := ⟨Ro.rfl, fun _ _ _ => Eq.refl _⟩
theorem M1.trans {O O' O2 : Mem_} (h : M1 O O') (g : M1 O' O2) : M1 O O2 := ⟨h.1.trans g.1, fun p j z => (g.2 p j z).trans (h.2 p j z)⟩
theorem M1.up {v : Int32} {O : Mem_} : M1 O (up O 7 0 0 21 v) := ⟨Ro.rfl.up, fun p q z => up_ne (by omega)⟩
theorem M1.mx {O O' : Mem_} (h : M1 O O') : Mx O O' := ⟨h.1, fun p j z => h.2 p j (by omega)⟩
/-- behind the spaces -/
noncomputable def n8 (d : Nat) (O : Mem_) (x : Int32) : Option (Int32 × Mem_) := (ex d 129 0 [some (vr 7 0 0), some (vi ((up O 7 0 0 22 (O 7 0 0 21)) 7 0 0 21))] [] (up O 7 0 0 22 (O 7 0 0 21))).bind fun r1 =>
  if r1.1 < nI 0 then (some (nI 0, (up r1.2 7 0 0 23 (nI 0))))
  else ((ex d 121 0 [some (vl (Int32.toInt64 r1.1)), none, some (vl (97)), none, some (vl (122)), none] [] r1.2).bind fun r2 =>
    if r2.1 = nI 0 then ((ex d 121 0 [some (vl (Int32.toInt64 r1.1)), none, some (vl (48)), none, some (vl (57)), none] [] r2.2).bind fun r3 =>
      if r3.1 = nI 0 then (if r1.1 = (nI 45) then (ex (d + 1) 134 255 [some (vr 7 0 0), some (vi r1.1)] [vi (nI 4), vr 7 0 0] r3.2) else (ex (d + 1) 134 255 [some (vr 7 0 0), some (vi r1.1)] [vi (nI 3), vr 7 0 0] r3.2))
      else (ex (d + 1) 134 140 [some (vr 7 0 0)] [] (up (up r3.2 7 0 0 23 (nI 2)) 7 0 0 24 (nI 0))))
    else (ex (d + 1) 134 82 [some (vr 7 0 0)] [] (up r2.2 7 0 0 23 (nI 1))))
theorem n_skip (d : Nat) (hn : n ≤ 400) (hb : ∀ j, b j < 256) : ∀ (k i : Nat) (O : Mem_), n - i = k → i ≤ n → MTp (O 7 0) (n, b) → O 7 0 0 21 = nI i → ∃ O', ex (d + 2) 134 8 [some (vr 7 0 0)] [] O = n8 (d + 1) O' 0 ∧ M1 O O' ∧ O' 7 0 0 21 = nI (run (fun j => decide (j < n) && b j == 32) k i)
  | 0, i, O, hk, hi, h, h5 => by
    refine ⟨O, (sX7_next_8 ..).trans ?_, M1.rfl, h5⟩
    rw [h5, n_look d hn h (by omega)]
    simp only [Option.bind_some]
    rw [if_neg (fun q => by have := ((lk_eq hb (by decide)).mp q).1; omega)]
    unfold n8
    rw [h5]
  | k + 1, i, O, hk, hi, h, h5 => by
    have st := sX7_next_8 (d + 1) O
    rw [h5, n_look d hn h (by omega)] at st
    simp only [Option.bind_some] at st
    unfold run
    by_cases z : b i = 32
    · have hl : lkb b n i = nI 32 := (lk_eq hb (by decide)).mpr ⟨by omega, z⟩
      rw [if_pos hl, h5, nI_add] at st
      obtain ⟨O', e, f, g⟩ := n_skip d hn hb k (i + 1) (up O 7 0 0 21 (nI (i + 1))) (by omega) (by omega) (h.mx (M1.up.mx)) (up_eq ..)
      rw [if_pos (by rw [z, decide_eq_true (show i < n by omega)]; rfl)]
      exact ⟨O', st.trans e, M1.up.trans f, g⟩
    · rw [if_neg (fun q => z ((lk_eq hb (by decide)).mp q).2)] at st
      rw [if_neg (by rw [Bool.and_eq_true]; intro q; exact z (by simpa using q.2))]
      refine ⟨O, st.trans ?_, M1.rfl, h5⟩
      unfold n8
      rw [h5]
theorem n_letters (d : Nat) (hn : n ≤ 400) (hb : ∀ j, b j < 256) : ∀ (k i : Nat) (O : Mem_), n - i = k → i ≤ n → MTp (O 7 0) (n, b) → O 7 0 0 21 = nI i → ∃ O', ex (d + 2) 134 82 [some (vr 7 0 0)] [] O = some (nI 0, O') ∧ M1 O O' ∧ O' 7 0 0 21 = nI (run (fun j => cls b n j == 1) k i)
  | k, i, O, hk, hi, h, h5 => by
    have st := sX7_next_82 (d + 1) O
    rw [h5, n_look d hn h (by omega)] at st
    simp only [Option.bind_some] at st
    rw [m_in _ _ (lkb b n i) (nI 97) (nI 122) (by decide) (by decide), lk_1 hb] at st
    simp only [Option.bind_some] at st
    rw [h5, nI_add] at st
    by_cases z : cls b n i = 1
    · have hin := cls_in (b := b) (n := n) (i := i) (by omega)
      rw [decide_eq_true z, if_neg (show ¬ bI true = nI 0 by decide)] at st
      obtain ⟨k', rfl⟩ : ∃ k', k = k' + 1 := ⟨k - 1, by omega⟩
      obtain ⟨O', e, f, g⟩ := n_letters d hn hb k' (i + 1) (up O 7 0 0 21 (nI (i + 1))) (by omega) (by omega) (h.mx (M1.up.mx)) (up_eq ..)
      unfold run
      rw [if_pos (by rw [z]; rfl)]
      exact ⟨O', st.trans e, M1.up.trans f, g⟩
    · rw [decide_eq_false z, if_pos bI_f] at st
      refine ⟨O, st, M1.rfl, ?_⟩
      cases k with
      | zero => exact h5
      | succ k => unfold run; rw [if_neg (by intro q; exact z (by simpa using q))]; exact h5
theorem nums_s : ∀ (r i v : Nat), nums b (r + 1) i v = nums b r i v * 10 + (b (i + r) - 48)
  | 0, i, v => rfl
  | r + 1, i, v => by
    show nums b (r + 1) (i + 1) (v * 10 + (b i - 48)) = nums b r (i + 1) (v * 10 + (b i - 48)) * 10 + _
    rw [nums_s r (i + 1), show i + 1 + r = i + (r + 1) by omega]
/-- place and value are changed -/
def M3 (O O' : Mem_) : Prop := Ro 7 0 O O' ∧ ∀ p j, p ≠ 0 ∨ (j ≠ 21 ∧ j ≠ 24) → O' 7 0 p j = O 7 0 p j
theorem M3.rfl {O : Mem_} : M3 O O := ⟨Ro.rfl, fun _ _ _ => Eq.refl _⟩
theorem M3.trans {O O' O2 : Mem_} (h : M3 O O') (g : M3 O' O2) : M3 O O2 := ⟨h.1.trans g.1, fun p j z => (g.2 p j z).trans (h.2 p j z)⟩
theorem M3.up {j : Nat} {v : Int32} {O : Mem_} (hj : j = 21 ∨ j = 24) : M3 O (up O 7 0 0 j v) := ⟨Ro.rfl.up, fun p q z => up_ne (by omega)⟩
theorem M3.mx {O O' : Mem_} (h : M3 O O') : Mx O O' := ⟨h.1, fun p j z => h.2 p j (by omega)⟩
theorem n_digs (d : Nat) (hn : n ≤ 400) (hb : ∀ j, b j < 256) {p : Nat} : ∀ (k i : Nat) (O : Mem_), n - i = k → i ≤ n → p ≤ i → MTp (O 7 0) (n, b) → O 7 0 0 21 = nI i → O 7 0 0 22 = nI p → (i - p ≤ 2 → O 7 0 0 24 = nI (nums b (i - p) p 0)) → ∃ O', ex (d + 2) 134 140 [some (vr 7 0 0)] [] O = ex (d + 2) 134 236 [] [vi (bI (!decide (2 < run (fun j => cls b n j == 2) k i - p))), vr 7 0 0] O' ∧ M3 O O' ∧ O' 7 0 0 21 = nI (run (fun j => cls b n j == 2) k i) ∧ (run (fun j => cls b n j == 2) k i - p ≤ 2 → O' 7 0 0 24 = nI (nums b (run (fun j => cls b n j == 2) k i - p) p 0))
  | k, i, O, hk, hi, hp, h, h5, h6, h7 => by
    have st := sX7_next_140 (d + 1) O
    rw [h5, n_look d hn h (by omega)] at st
    simp only [Option.bind_some] at st
    rw [m_in _ _ (lkb b n i) (nI 48) (nI 57) (by decide) (by decide), lk_2 hb] at st
    simp only [Option.bind_some] at st
    rw [h5, h6, pk_sub hp] at st
    by_cases z : cls b n i = 2
    · have hin := cls_in (b := b) (n := n) (i := i) (by omega)
      have hc := cls_2 z
      rw [decide_eq_true z, if_neg (show ¬ bI true = nI 0 by decide)] at st
      obtain ⟨k', rfl⟩ : ∃ k', k = k' + 1 := ⟨k - 1, by omega⟩
      have hrun : run (fun j => cls b n j == 2) (k' + 1) i = run (fun j => cls b n j == 2) k' (i + 1) := by
        conv => lhs; unfold run
        rw [if_pos (by rw [z]; rfl)]
      rw [hrun]
      by_cases y : i - p < 2
      · rw [if_pos (nI_lt y (by decide)), n_look d hn h (by omega)] at st
        simp only [Option.bind_some] at st
        rw [show lkb b n i = nI (b i) from if_pos hin, h7 (by omega), pk_mul, nI_add, pk_sub (by omega), up_ne (by decide), h5, nI_add] at st
        have g : M3 O (up (up O 7 0 0 24 (nI (10 * nums b (i - p) p 0 + b i - 48))) 7 0 0 21 (nI (i + 1))) := (M3.up (by decide)).trans (M3.up (by decide))
        obtain ⟨O', e, f, g1, g2⟩ := n_digs d hn hb k' (i + 1) _ (by omega) (by omega) (by omega) (h.mx g.mx) (up_eq ..) ((g.2 0 22 (by decide)).trans h6) (fun _ => by
          rw [up_ne (by decide), up_eq, show i + 1 - p = i - p + 1 by omega, nums_s, show p + (i - p) = i by omega]
          congr 1
          omega)
        exact ⟨O', st.trans e, g.trans f, g1, g2⟩
      · rw [if_neg (nI_nlt (show 2 ≤ i - p by omega) (by omega)), up_ne (by decide), h5, nI_add] at st
        have g : M3 O (up (up O 7 0 0 24 (O 7 0 0 24)) 7 0 0 21 (nI (i + 1))) := (M3.up (by decide)).trans (M3.up (by decide))
        obtain ⟨O', e, f, g1, g2⟩ := n_digs d hn hb k' (i + 1) _ (by omega) (by omega) (by omega) (h.mx g.mx) (up_eq ..) ((g.2 0 22 (by decide)).trans h6) (fun q => by omega)
        exact ⟨O', st.trans e, g.trans f, g1, g2⟩
    · have hrun : run (fun j => cls b n j == 2) k i = i := by
        cases k with
        | zero => rfl
        | succ k => unfold run; rw [if_neg (by intro q; exact z (by simpa using q))]
      rw [hrun]
      rw [decide_eq_false z, if_pos bI_f] at st
      refine ⟨O, st.trans ?_, M3.rfl, h5, h7⟩
      by_cases y : 2 < i - p
      · rw [if_pos (nI_lt y (by omega)), decide_eq_true y]; rfl
      · rw [if_neg (nI_nlt (by omega) (by omega)), decide_eq_false y]; rfl
/-- what next leaves -/
def RN (b : Nat → Nat) (O : Mem_) (r : Pr_ Tk_) : Prop := match r with
  | .ok k => MK b O k
  | .error e => ME O e
theorem n_nextT (d : Nat) (hn : n ≤ 400) (hb : ∀ j, b j < 256) {O : Mem_} {e : Nat} (h : MTp (O 7 0) (n, b)) (he : e ≤ n) (h5 : O 7 0 0 21 = nI e) (h2 : O 7 0 0 25 = nI 0) : ∃ O', ex (d + 2) 134 0 [some (vr 7 0 0)] [] O = some (nI 0, O') ∧ Mx O O' ∧ RN b O' (nxt b n e) := by
  obtain ⟨O1, e1, f1, g1⟩ := n_skip d hn hb (n - e) e O rfl he h h5
  have g1 : O1 7 0 0 21 = nI (skp b n e) := g1
  have hs := skp_ge (b := b) he
  have h1 := h.mx f1.mx
  have h12 : O1 7 0 0 25 = nI 0 := (f1.2 0 25 (by decide)).trans h2
  have st : ex (d + 2) 134 0 [some (vr 7 0 0)] [] O = n8 (d + 1) O1 0 := by
    rw [sX7_next_0, h2, if_neg (by decide)]
    exact e1
  unfold n8 at st
  obtain ⟨O2, q2⟩ : ∃ O2, O2 = up O1 7 0 0 22 (O1 7 0 0 21) := ⟨_, rfl⟩
  rw [← q2] at st
  have f2 : Mx O O2 := f1.mx.trans (by rw [q2]; exact Mx.up (by decide))
  have z21 : O2 7 0 0 21 = nI (skp b n e) := by rw [q2, up_ne (by decide)]; exact g1
  have z22 : O2 7 0 0 22 = nI (skp b n e) := by rw [q2, up_eq]; exact g1
  have z25 : O2 7 0 0 25 = nI 0 := by rw [q2, up_ne (by decide)]; exact h12
  have h2' := h.mx f2
  rw [z21, n_look d hn h2' (by omega)] at st
  simp only [Option.bind_some] at st
  rw [m_in _ _ (lkb b n (skp b n e)) (nI 97) (nI 122) (by decide) (by decide), lk_1 hb] at st
  simp only [Option.bind_some] at st
  rw [m_in _ _ (lkb b n (skp b n e)) (nI 48) (nI 57) (by decide) (by decide), lk_2 hb] at st
  simp only [Option.bind_some] at st
  generalize hpp : skp b n e = p at *
  have hcl := cls_lt (b := b) (n := n) p
  have htok : tok b n e = (cls b n p, p, ste b n p) := by unfold tok; rw [hpp]
  unfold nxt
  rw [htok]
  by_cases c0 : cls b n p = 0
  · have hpn : n ≤ p := by
      unfold cls at c0
      by_cases q : p < n
      · rw [if_pos q] at c0
        revert c0
        repeat' split
        all_goals intro c0; cases c0
      · omega
    have hst : ste b n p = p := by unfold ste; rw [if_pos c0]
    rw [if_pos ((lk_neg hb).mpr hpn)] at st
    rw [hst, c0, if_neg (by unfold bad; simp)]
    refine ⟨_, st, f2.trans (Mx.up (by decide)), ?_, ?_, up_eq .., (fun q => by cases q), ?_⟩
    · rw [up_ne (by decide)]; exact z21
    · rw [up_ne (by decide)]; exact z22
    · rw [up_ne (by decide)]; exact z25
  · have hpn := cls_in c0
    rw [if_neg (fun q => by have := (lk_neg hb).mp q; omega)] at st
    by_cases c1 : cls b n p = 1
    · rw [decide_eq_true c1, if_neg (show ¬ bI true = nI 0 by decide)] at st
      have hst : ste b n p = run (fun j => cls b n j == 1) (n - (p + 1)) (p + 1) := by unfold ste; rw [if_neg c0, if_pos (Or.inl c1), c1]
      obtain ⟨O4, e4, f4, g4⟩ := n_letters d hn hb (n - p) p (up O2 7 0 0 23 (nI 1)) rfl (by omega) (h2'.mx (Mx.up (by decide))) ((up_ne (by decide)).trans z21)
      have hrun : run (fun j => cls b n j == 1) (n - p) p = ste b n p := by
        rw [hst, show n - p = n - (p + 1) + 1 by omega]
        conv => lhs; unfold run
        rw [if_pos (by rw [c1]; rfl)]
      rw [hrun] at g4
      rw [c1, if_neg (by unfold bad; simp)]
      refine ⟨O4, st.trans e4, (f2.trans (Mx.up (by decide))).trans f4.mx, g4, ?_, ?_, (fun q => by cases q), ?_⟩
      · rw [f4.2 0 22 (by decide), up_ne (by decide)]; exact z22
      · rw [f4.2 0 23 (by decide), up_eq]
      · rw [f4.2 0 25 (by decide), up_ne (by decide)]; exact z25
    · rw [decide_eq_false c1, if_pos bI_f] at st
      by_cases c2 : cls b n p = 2
      · rw [decide_eq_true c2, if_neg (show ¬ bI true = nI 0 by decide)] at st
        have hst : ste b n p = run (fun j => cls b n j == 2) (n - (p + 1)) (p + 1) := by unfold ste; rw [if_neg c0, if_pos (Or.inr c2), c2]
        have f3 : Mx O2 (up (up O2 7 0 0 23 (nI 2)) 7 0 0 24 (nI 0)) := (Mx.up (by decide)).trans (Mx.up (by decide))
        obtain ⟨O4, e4, f4, g4, v4⟩ := n_digs d hn hb (p := p) (n - p) p (up (up O2 7 0 0 23 (nI 2)) 7 0 0 24 (nI 0)) rfl (by omega) (Nat.le_refl _) (h2'.mx f3) (by rw [up_ne (by decide), up_ne (by decide)]; exact z21) (by rw [up_ne (by decide), up_ne (by decide)]; exact z22) (fun _ => by rw [up_eq, Nat.sub_self]; rfl)
        have hrun : run (fun j => cls b n j == 2) (n - p) p = ste b n p := by
          rw [hst, show n - p = n - (p + 1) + 1 by omega]
          conv => lhs; unfold run
          rw [if_pos (by rw [c2]; rfl)]
        rw [hrun] at g4 v4 e4
        have y22 : O4 7 0 0 22 = nI p := by rw [f4.2 0 22 (by decide), up_ne (by decide), up_ne (by decide)]; exact z22
        have y23 : O4 7 0 0 23 = nI 2 := by rw [f4.2 0 23 (by decide), up_ne (by decide), up_eq]
        have y25 : O4 7 0 0 25 = nI 0 := by rw [f4.2 0 25 (by decide), up_ne (by decide), up_ne (by decide)]; exact z25
        have F4 := (f2.trans f3).trans f4.mx
        have s5 := (st.trans e4).trans (sX7_next_236 (d + 1) O4 _)
        by_cases y : 2 < ste b n p - p
        · rw [decide_eq_true y, show bI (!true) = nI 0 from rfl] at s5
          rw [c2, if_pos (by unfold bad; simp [y])]
          obtain ⟨O5, e5, f5, m5, -⟩ := n_needs_f d (f := 1) y25 y22 (by decide) (by omega)
          rw [e5] at s5
          exact ⟨O5, s5, F4.trans f5, m5⟩
        · rw [decide_eq_false y, show bI (!false) = nI 1 from rfl, n_needs_t] at s5
          rw [c2, if_neg (by unfold bad; simp; omega)]
          exact ⟨O4, s5, F4, g4, y22, y23, fun _ => v4 (by omega), y25⟩
      · rw [decide_eq_false c2, if_pos bI_f] at st
        have hst : ste b n p = p + 1 := by unfold ste; rw [if_neg c0, if_neg (by omega)]
        have hl : lkb b n p = nI (b p) := if_pos hpn
        have hbp := hb p
        -- the sort, and whether it is one
        have hc : (cls b n p = 3 ∧ b p = 59) ∨ (cls b n p = 4 ∧ b p = 45) ∨ (cls b n p = 5 ∧ b p ≠ 59 ∧ b p ≠ 45) := by
          revert c1 c2
          unfold cls
          rw [if_pos hpn]
          repeat' split
          all_goals intro c1 c2
          all_goals first | exact absurd rfl c1 | exact absurd rfl c2 | skip
          · left; exact ⟨rfl, by assumption⟩
          · right; left; exact ⟨rfl, by assumption⟩
          · right; right; exact ⟨rfl, by assumption, by assumption⟩
        -- the end: the place moves on
        have fin : ∀ (c : Nat) (ok : Bool), ∃ O3, O3 = up O2 7 0 0 23 (nI c) ∧ Mx O2 O3 ∧ O3 7 0 0 21 = nI p ∧ O3 7 0 0 22 = nI p ∧ O3 7 0 0 23 = nI c ∧ O3 7 0 0 25 = nI 0 := fun c ok => by
          refine ⟨_, rfl, Mx.up (by decide), ?_, ?_, up_eq .., ?_⟩
          · rw [up_ne (by decide)]; exact z21
          · rw [up_ne (by decide)]; exact z22
          · rw [up_ne (by decide)]; exact z25
        rw [hl] at st
        rcases hc with ⟨c3, b3⟩ | ⟨c4, b4⟩ | ⟨c5, b5, b6⟩
        · obtain ⟨O3, q3, f3, y21, y22, y23, y25⟩ := fin 3 true
          rw [b3, if_neg (by decide)] at st
          have s2 := st.trans (sX7_next_255 (d + 1) O2 _ _)
          rw [if_pos rfl, ← q3, sX7_next_276, n_needs_t] at s2
          simp only [Option.bind_some] at s2
          rw [y21, nI_add] at s2
          rw [c3, hst, if_neg (by unfold bad; simp)]
          refine ⟨_, s2, (f2.trans f3).trans (Mx.up (by decide)), up_eq .., ?_, ?_, (fun q => by cases q), ?_⟩
          · rw [up_ne (by decide)]; exact y22
          · rw [up_ne (by decide)]; exact y23
          · rw [up_ne (by decide)]; exact y25
        · obtain ⟨O3, q3, f3, y21, y22, y23, y25⟩ := fin 4 true
          rw [b4, if_pos rfl] at st
          have s2 := st.trans (sX7_next_255 (d + 1) O2 _ _)
          rw [if_neg (by decide), if_pos rfl, ← q3, sX7_next_276, n_needs_t] at s2
          simp only [Option.bind_some] at s2
          rw [y21, nI_add] at s2
          rw [c4, hst, if_neg (by unfold bad; simp)]
          refine ⟨_, s2, (f2.trans f3).trans (Mx.up (by decide)), up_eq .., ?_, ?_, (fun q => by cases q), ?_⟩
          · rw [up_ne (by decide)]; exact y22
          · rw [up_ne (by decide)]; exact y23
          · rw [up_ne (by decide)]; exact y25
        · obtain ⟨O3, q3, f3, y21, y22, y23, y25⟩ := fin 3 false
          rw [if_neg (by rw [nI_eq (by omega) (by decide)]; exact b6)] at st
          have s2 := st.trans (sX7_next_255 (d + 1) O2 _ _)
          rw [if_neg (by rw [nI_eq (by omega) (by decide)]; exact b5), if_neg (by rw [nI_eq (by omega) (by decide)]; exact b6), ← q3, sX7_next_276] at s2
          obtain ⟨O5, e5, f5, m5, k5⟩ := n_needs_f d (f := 1) y25 y22 (by decide) (by omega)
          rw [e5] at s2
          simp only [Option.bind_some] at s2
          rw [c5, hst, if_pos (by unfold bad; simp)]
          refine ⟨_, s2, ((f2.trans f3).trans f5).trans (Mx.up (by decide)), ?_, ?_, m5.2.2⟩
          · rw [up_ne (by decide)]; exact m5.1
          · rw [up_ne (by decide)]; exact m5.2.1
end
end
