/-! THE WORLD behind both constructors: every cell of the abstract memory has its address. -/
def mIz : Mem_ := fun c _ p j => if c = 2 ∧ p = 1 then szF 4 j else if c = 6 ∧ p = 0 ∧ j = 2 then 1 else 0
def adr (u : S6_) (f7 st : Nat → Nat) (b : Nat) : AD_ := fun c n p => match c with
  | 0 => ((u.2.2.2.2.2.2.1 :: u.2.2.2.2.2.2.2.1 :: (u.2.2.2.2.2.2.2.2.1.2.1 ++ u.2.2.2.2.2.2.2.2.1.2.2)).getD n (fun _ => 0)) p
  | 1 => ((u.2.2.2.2.1 :: u.2.2.2.2.2.1).getD n (fun _ => 0)) p
  | 2 => u.2.2.2.2.2.2.2.2.2 p
  | 3 => u.2.1 p
  | 4 => ([u.2.2.1, u.2.2.2.1].getD n (fun _ => 0)) p
  | 5 => u.2.2.2.2.2.2.2.2.1.1 p
  | 6 => bif p.beq 0 then u.1.1 else u.1.2
  | 7 => f7 p
  | 8 => b
  | 9 => st n
  | _ => 0
def smp (c : Nat) : Bool := ((List.range (rcl c).2.2).all fun k => (fkd c k).blt 2) && (prts c).all fun p => p.beq 0 || (aty c p).blt 2
theorem cells_c : ∀ x ∈ cellsL, x.1 < 8 ∧ x.2.1 < cnts.getD x.1 0 ∧ x.2.2 ∈ prts x.1 := by
  intro x hx
  unfold cellsL at hx
  obtain ⟨c, hc, hx⟩ := List.mem_flatMap.mp hx
  obtain ⟨n, hn, hx⟩ := List.mem_flatMap.mp hx
  obtain ⟨p, hp, rfl⟩ := List.mem_map.mp hx
  exact ⟨List.mem_range.mp hc, List.mem_range.mp hn, hp⟩
theorem refs_eq {c : ClassId} {N : Nat} {f g : Nat → Option Nat} (h : ∀ i, i < N → f i = g i) : vp_cell c (N, .inr (.inr (.inr (.inr f)))) = vp_cell c (N, .inr (.inr (.inr (.inr g)))) := by
  rw [vp_cell_q, vp_cell_q]
  unfold arrV
  congr 1
  congr 1
  funext j
  show va_rf (f j.val) = va_rf (g j.val)
  rw [h j.val j.isLt]
theorem prts_0 : prts 0 = [0, 2, 3, 4, 5, 6] := by decide +kernel
theorem prts_1 : prts 1 = [0, 2, 3, 4, 7, 8] := by decide +kernel
theorem prts_2 : prts 2 = [0, 1, 2, 3, 4, 5, 6, 7] := by decide +kernel
theorem prts_3 : prts 3 = [0, 1] := by decide +kernel
theorem prts_4 : prts 4 = [0, 5, 6, 7, 8, 9, 10, 11, 12, 13, 14, 15, 16, 17, 18, 19] := by decide +kernel
theorem prts_5 : prts 5 = [0, 1, 3, 5, 6, 7] := by decide +kernel
theorem prts_6 : prts 6 = [0, 5] := by decide +kernel
theorem prts_7 : prts 7 = [0, 2, 4, 5, 7, 9, 11, 13, 14, 16, 18, 19, 20, 28, 30, 31, 32, 33, 36, 37, 38, 39, 40, 41, 42, 43, 44] := by decide +kernel
section WOF
variable {D : va_G} {cs : Nat → ClassId} {H : Heap} {ad : AD_} {O : Mem_}
theorem sm_at {c n p : Nat} {f : Nat → Nat} (hs : ∀ y ∈ sl cs c mZ f, va_at D vwCl y H) (hp : p ∈ prts c) (hc : smp c = true) (hf : ∀ p, ad c n p = f p) (hO : ∀ p, O c n p = fun _ => 0) : va_at D vwCl (ad c n p, cel ad cs O (c, n, p)) H := by
  have e : (ad c n p, cel ad cs O (c, n, p)) = (f p, cel (fun _ _ p => f p) cs mZ (c, 0, p)) := by
    unfold smp at hc
    rw [Bool.and_eq_true] at hc
    cases p with
    | zero =>
      rw [hf]
      refine congrArg (Prod.mk (f 0)) ?_
      simp only [cel, fls]
      refine congrArg (fun l => (Sum.inr (c, l) : va_E)) (List.map_congr_left fun k hk => ?_)
      have h1 := Nat.blt_eq.mp (List.all_eq_true.mp hc.1 k hk)
      generalize fkd c k = z at h1
      match z, h1 with
      | 0, _ =>
        show Value.int (O c n 0 k) = Value.int 0
        rw [hO]
      | 1, _ =>
        show Value.ref (ad c n (k + 1)) = Value.ref (f (k + 1))
        rw [hf]
    | succ p =>
      rw [hf]
      refine congrArg (Prod.mk (f (p + 1))) ?_
      have h1 := List.all_eq_true.mp hc.2 _ hp
      have h2 : (aty c (p + 1)).blt 2 = true := by
        rw [Bool.or_eq_true] at h1
        rcases h1 with h1 | h1
        · cases h1
        · exact h1
      simp only [cel, h2, cond_true, hO]
      rfl
  rw [e]
  exact hs _ (List.mem_map.mpr ⟨p, hp, rfl⟩)
theorem sm_all : smp 0 = true ∧ smp 1 = true ∧ smp 3 = true ∧ smp 4 = true ∧ smp 7 = true := by decide +kernel
theorem all_at {ws : va_W} (h : va_P D vwCl ws H) : ∀ x ∈ ws, va_at D vwCl x H := fun x hx => by
  obtain ⟨k, hk⟩ := List.getElem?_of_mem hx
  exact h k x hk
def tgT : List (Nat × Nat × Nat) := [(7, 0, 0), (6, 0, 0), (3, 0, 0), (3, 0, 1), (4, 0, 0), (4, 0, 5), (4, 0, 6), (4, 0, 7), (4, 0, 8), (4, 0, 9), (4, 0, 10), (4, 0, 11), (4, 0, 12), (4, 0, 13), (4, 0, 14), (4, 0, 15), (4, 0, 16), (4, 0, 17), (4, 0, 18), (4, 0, 19), (4, 1, 0), (4, 1, 5), (4, 1, 6), (4, 1, 7), (4, 1, 8), (4, 1, 9), (4, 1, 10), (4, 1, 11), (4, 1, 12), (4, 1, 13), (4, 1, 14), (4, 1, 15), (4, 1, 16), (4, 1, 17), (4, 1, 18), (4, 1, 19), (1, 0, 0), (1, 0, 2), (1, 0, 3), (1, 0, 4), (1, 0, 7), (1, 0, 8), (6, 0, 5), (1, 1, 0), (1, 1, 2), (1, 1, 3), (1, 1, 4), (1, 1, 7), (1, 1, 8), (1, 2, 0), (1, 2, 2), (1, 2, 3), (1, 2, 4), (1, 2, 7), (1, 2, 8), (0, 0, 0), (0, 0, 2), (0, 0, 3), (0, 0, 4), (0, 0, 5), (0, 0, 6), (0, 1, 0), (0, 1, 2), (0, 1, 3), (0, 1, 4), (0, 1, 5), (0, 1, 6), (5, 0, 0), (5, 0, 1), (5, 0, 3), (5, 0, 5), (5, 0, 6), (5, 0, 7), (0, 2, 0), (0, 2, 2), (0, 2, 3), (0, 2, 4), (0, 2, 5), (0, 2, 6), (0, 3, 0), (0, 3, 2), (0, 3, 3), (0, 3, 4), (0, 3, 5), (0, 3, 6), (0, 4, 0), (0, 4, 2), (0, 4, 3), (0, 4, 4), (0, 4, 5), (0, 4, 6), (0, 5, 0), (0, 5, 2), (0, 5, 3), (0, 5, 4), (0, 5, 5), (0, 5, 6), (0, 6, 0), (0, 6, 2), (0, 6, 3), (0, 6, 4), (0, 6, 5), (0, 6, 6), (0, 7, 0), (0, 7, 2), (0, 7, 3), (0, 7, 4), (0, 7, 5), (0, 7, 6), (0, 8, 0), (0, 8, 2), (0, 8, 3), (0, 8, 4), (0, 8, 5), (0, 8, 6), (0, 9, 0), (0, 9, 2), (0, 9, 3), (0, 9, 4), (0, 9, 5), (0, 9, 6), (0, 10, 0), (0, 10, 2), (0, 10, 3), (0, 10, 4), (0, 10, 5), (0, 10, 6), (0, 11, 0), (0, 11, 2), (0, 11, 3), (0, 11, 4), (0, 11, 5), (0, 11, 6), (0, 12, 0), (0, 12, 2), (0, 12, 3), (0, 12, 4), (0, 12, 5), (0, 12, 6), (2, 0, 0), (2, 0, 1), (2, 0, 2), (2, 0, 3), (2, 0, 4), (2, 0, 5), (2, 0, 6), (2, 0, 7), (7, 0, 2), (7, 0, 4), (7, 0, 5), (7, 0, 7), (7, 0, 9), (7, 0, 11), (7, 0, 13), (7, 0, 14), (7, 0, 16), (7, 0, 18), (7, 0, 19), (7, 0, 20), (7, 0, 28), (7, 0, 30), (7, 0, 31), (7, 0, 32), (7, 0, 33), (7, 0, 36), (7, 0, 37), (7, 0, 38), (7, 0, 39), (7, 0, 40), (7, 0, 41), (7, 0, 42), (7, 0, 43), (7, 0, 44)]
theorem tgT_all : ∀ x ∈ cellsL, x ∈ tgT := by decide +kernel
def fkl (c : Nat) : List (Nat × Nat) := (List.range (rcl c).2.2).map fun k => (k, fkd c k)
def ptl (c : Nat) : List (Nat × Nat × Nat) := (prts c).tail.map fun p => (p, aty c p, aln c p)
theorem fkl_2 : fkl 2 = [(0, 1), (1, 1), (2, 1)] := by decide +kernel
theorem fkl_5 : fkl 5 = [(0, 1), (1, 0), (2, 1), (3, 0), (4, 1), (5, 1), (6, 1), (7, 0), (8, 0), (9, 0)] := by decide +kernel
theorem fkl_6 : fkl 6 = [(0, 51), (1, 2), (2, 2), (3, 19), (4, 1), (5, 3), (6, 4), (7, 83), (8, 35), (9, 0)] := by decide +kernel
theorem fkl_7 : fkl 7 = [(0, 0), (1, 1), (2, 0), (3, 1), (4, 1), (5, 0), (6, 1), (7, 0), (8, 1), (9, 0), (10, 1), (11, 0), (12, 1), (13, 1), (14, 0), (15, 1), (16, 0), (17, 1), (18, 1), (19, 1), (20, 0), (21, 0), (22, 0), (23, 0), (24, 0), (25, 0), (26, 0), (27, 1), (28, 0), (29, 1), (30, 1), (31, 1), (32, 1), (33, 0), (34, 0), (35, 1), (36, 1), (37, 1), (38, 1), (39, 1), (40, 1), (41, 1), (42, 1), (43, 1), (44, 0)] := by decide +kernel
theorem ptl_7 : ptl 7 = [(2, 0, 8), (4, 0, 12), (5, 0, 12), (7, 0, 4), (9, 0, 30), (11, 0, 8), (13, 0, 12), (14, 0, 12), (16, 0, 4), (18, 0, 30), (19, 0, 12), (20, 0, 400), (28, 0, 210), (30, 0, 72), (31, 0, 5), (32, 0, 4), (33, 0, 4), (36, 0, 12), (37, 1, 12), (38, 1, 2), (39, 0, 6), (40, 0, 144), (41, 0, 48), (42, 0, 4), (43, 0, 4), (44, 0, 160)] := by decide +kernel
theorem fls_eq {c n : Nat} : fls ad O c n = (fkl c).map fun q => cv ad (gfv q.2 c n q.1 O) := by
  unfold fls fkl
  rw [List.map_map]
  rfl
theorem dfs_eq {c : Nat} : dfv c = (fkl c).map fun q => if q.2 = 0 then .int 0 else .null := by
  unfold dfv fkl
  rw [List.map_map]
  rfl
theorem sl_eq {c : Nat} {f : Nat → Nat} (hs : smp c = true) (hz0 : 0 ∉ (prts c).tail) : sl cs c mZ f = (f 0, .inr (c, (fkl c).map fun q => if q.2 = 0 then .int 0 else .ref (f (q.1 + 1)))) :: (ptl c).map fun t => (f t.1, .inl (cs t.2.1, t.2.2, .inl fun _ => 0)) := by
  unfold smp at hs
  rw [Bool.and_eq_true] at hs
  unfold sl ptl
  rw [show prts c = 0 :: (prts c).tail from rfl, List.map_cons, List.map_map, List.tail_cons]
  refine congr (congrArg List.cons ?_) (List.map_congr_left fun p hp => ?_)
  · refine congrArg (Prod.mk (f 0)) ?_
    simp only [cel]
    rw [fls_eq]
    refine congrArg (fun l => (Sum.inr (c, l) : va_E)) (List.map_congr_left fun q hq => ?_)
    obtain ⟨k, hk, rfl⟩ := List.mem_map.mp hq
    have h1 := Nat.blt_eq.mp (List.all_eq_true.mp hs.1 k hk)
    show cv _ (gfv (fkd c k) c 0 k mZ) = if fkd c k = 0 then Value.int 0 else Value.ref (f (k + 1))
    generalize fkd c k = z at h1
    match z, h1 with
    | 0, _ => rfl
    | 1, _ => rfl
  · have h1 := List.all_eq_true.mp hs.2 p (List.mem_cons_of_mem _ hp)
    rw [Bool.or_eq_true] at h1
    cases p with
    | zero =>
      exfalso
      exact hz0 hp
    | succ p =>
      have h2 : (aty c (p + 1)).blt 2 = true := by
        rcases h1 with h1 | h1
        · cases h1
        · exact h1
      simp only [cel, h2, cond_true, Function.comp]
      rfl
set_option maxRecDepth 40000 in
theorem sl7 {cs : Nat → ClassId} {o7 q0 q1 q2 q3 q4 q5 q6 q7 q8 q9 q10 q11 q12 q13 q14 q15 q16 q17 q18 q19 q20 q21 q22 q23 q24 q25 : Nat} : (o7, .inr (7, bkf bk7 [q0, q1, q2, q3, q4, q5, q6, q7, q8, q9, q10, q11, q12, q13, q14, q15, q16, q17, q18, q19, q20, q21, q22, q23, q24, q25] (dfv 7))) :: bkq cs bk7 [q0, q1, q2, q3, q4, q5, q6, q7, q8, q9, q10, q11, q12, q13, q14, q15, q16, q17, q18, q19, q20, q21, q22, q23, q24, q25] = sl cs 7 mZ (fun p => [o7, 0, q0, 0, q1, q2, 0, q3, 0, q4, 0, q5, 0, q6, q7, 0, q8, 0, q9, q10, q11, 0, 0, 0, 0, 0, 0, 0, q12, 0, q13, q14, q15, q16, 0, 0, q17, q18, q19, q20, q21, q22, q23, q24, q25, 0].getD p 0) := by
  rw [sl_eq sm_all.2.2.2.2 (by rw [prts_7]; decide), dfs_eq, fkl_7, ptl_7]
  simp only [List.map_cons, List.map_nil, if_true, if_false, Nat.one_ne_zero, bkf, bkq, bk7, List.set_cons_succ, List.set_cons_zero]
  rfl
theorem l_cons {α : Type} {n : Nat} {l : List α} (h : l.length = n + 1) : ∃ a t, l = a :: t ∧ t.length = n := by
  cases l with
  | nil => cases h
  | cons a t => exact ⟨a, t, rfl, Nat.succ.inj h⟩
set_option maxRecDepth 40000 in
theorem tag7 {cs : Nat → ClassId} {o a b o7 q0 q1 q2 q3 q4 q5 q6 q7 q8 q9 q10 q11 q12 q13 q14 q15 q16 q17 q18 q19 q20 q21 q22 q23 q24 q25 : Nat} {f3 f4 g4 f1 s1 s2 f0 g0 f5 m0 m1 m2 m3 m4 m5 k0 k1 k2 k3 k4 f2 st : Nat → Nat} : (((o7, .inr (7, bkf bk7 [q0, q1, q2, q3, q4, q5, q6, q7, q8, q9, q10, q11, q12, q13, q14, q15, q16, q17, q18, q19, q20, q21, q22, q23, q24, q25] (dfv 7))) :: (w6 cs ((o, a), f3, f4, g4, f1, [s1, s2], f0, g0, (f5, [m0, m1, m2, m3, m4, m5], [k0, k1, k2, k3, k4]), f2) ++ bkq cs bk7 [q0, q1, q2, q3, q4, q5, q6, q7, q8, q9, q10, q11, q12, q13, q14, q15, q16, q17, q18, q19, q20, q21, q22, q23, q24, q25]) : va_W).map fun x => x.1) = tgT.map fun x => adr ((o, a), f3, f4, g4, f1, [s1, s2], f0, g0, (f5, [m0, m1, m2, m3, m4, m5], [k0, k1, k2, k3, k4]), f2) (fun p => [o7, 0, q0, 0, q1, q2, 0, q3, 0, q4, 0, q5, 0, q6, q7, 0, q8, 0, q9, q10, q11, 0, 0, 0, 0, 0, 0, 0, q12, 0, q13, q14, q15, q16, 0, 0, q17, q18, q19, q20, q21, q22, q23, q24, q25, 0].getD p 0) st b x.1 x.2.1 x.2.2 := by
  simp only [w6, w5, w2, sl, prts_0, prts_1, prts_3, prts_4, List.map_cons, List.map_nil, List.flatMap_cons, List.flatMap_nil, List.cons_append, List.nil_append, List.append_nil, bkq, bk7]
  rfl
set_option maxRecDepth 40000 in
set_option maxHeartbeats 4000000 in
theorem wo_of {u : S6_} {o7 b : Nat} {st : Nat → Nat} {qs : List Nat} (hu : pst6 u) (hq : qs.length = 26) (hP : va_P D vwCl ((o7, .inr (7, bkf bk7 qs (dfv 7))) :: (w6 cs u ++ bkq cs bk7 qs)) H) :
    ∃ f7 : Nat → Nat, f7 0 = o7 ∧ va_P D vwCl (wo (adr u f7 st b) cs mIz) H ∧ (((o7, .inr (7, bkf bk7 qs (dfv 7))) :: (w6 cs u ++ bkq cs bk7 qs) : va_W).map fun x => x.1) = tgT.map fun x => adr u f7 st b x.1 x.2.1 x.2.2 := by
  obtain ⟨⟨o, a⟩, f3, f4, g4, f1, gs, f0, g0, ⟨f5, ms, ks⟩, f2⟩ := u
  obtain ⟨hg, hm, hk⟩ := hu
  obtain ⟨s1, s2, rfl⟩ : ∃ a b, gs = [a, b] := by
    match gs, hg with
    | [a, b], _ => exact ⟨a, b, rfl⟩
  obtain ⟨m0, m1, m2, m3, m4, m5, rfl⟩ : ∃ a b c d e f, ms = [a, b, c, d, e, f] := by
    match ms, hm with
    | [a, b, c, d, e, f], _ => exact ⟨a, b, c, d, e, f, rfl⟩
  obtain ⟨k0, k1, k2, k3, k4, rfl⟩ : ∃ a b c d e, ks = [a, b, c, d, e] := by
    match ks, hk with
    | [a, b, c, d, e], _ => exact ⟨a, b, c, d, e, rfl⟩
  obtain ⟨q0, qs1, rfl, hq1⟩ := l_cons hq
  obtain ⟨q1, qs2, rfl, hq2⟩ := l_cons hq1
  obtain ⟨q2, qs3, rfl, hq3⟩ := l_cons hq2
  obtain ⟨q3, qs4, rfl, hq4⟩ := l_cons hq3
  obtain ⟨q4, qs5, rfl, hq5⟩ := l_cons hq4
  obtain ⟨q5, qs6, rfl, hq6⟩ := l_cons hq5
  obtain ⟨q6, qs7, rfl, hq7⟩ := l_cons hq6
  obtain ⟨q7, qs8, rfl, hq8⟩ := l_cons hq7
  obtain ⟨q8, qs9, rfl, hq9⟩ := l_cons hq8
  obtain ⟨q9, qs10, rfl, hq10⟩ := l_cons hq9
  obtain ⟨q10, qs11, rfl, hq11⟩ := l_cons hq10
  obtain ⟨q11, qs12, rfl, hq12⟩ := l_cons hq11
  obtain ⟨q12, qs13, rfl, hq13⟩ := l_cons hq12
  obtain ⟨q13, qs14, rfl, hq14⟩ := l_cons hq13
  obtain ⟨q14, qs15, rfl, hq15⟩ := l_cons hq14
  obtain ⟨q15, qs16, rfl, hq16⟩ := l_cons hq15
  obtain ⟨q16, qs17, rfl, hq17⟩ := l_cons hq16
  obtain ⟨q17, qs18, rfl, hq18⟩ := l_cons hq17
  obtain ⟨q18, qs19, rfl, hq19⟩ := l_cons hq18
  obtain ⟨q19, qs20, rfl, hq20⟩ := l_cons hq19
  obtain ⟨q20, qs21, rfl, hq21⟩ := l_cons hq20
  obtain ⟨q21, qs22, rfl, hq22⟩ := l_cons hq21
  obtain ⟨q22, qs23, rfl, hq23⟩ := l_cons hq22
  obtain ⟨q23, qs24, rfl, hq24⟩ := l_cons hq23
  obtain ⟨q24, qs25, rfl, hq25⟩ := l_cons hq24
  obtain ⟨q25, qs26, rfl, hq26⟩ := l_cons hq25
  obtain rfl : qs26 = [] := List.eq_nil_of_length_eq_zero hq26
  refine ⟨fun p => [o7, 0, q0, 0, q1, q2, 0, q3, 0, q4, 0, q5, 0, q6, q7, 0, q8, 0, q9, q10, q11, 0, 0, 0, 0, 0, 0, 0, q12, 0, q13, q14, q15, q16, 0, 0, q17, q18, q19, q20, q21, q22, q23, q24, q25, 0].getD p 0, rfl, ?_, tag7⟩
  obtain ⟨sm0, sm1, sm3, sm4, sm7⟩ := sm_all
  have hT := all_at hP
  obtain ⟨h70, hT⟩ := List.forall_mem_cons.mp hT
  obtain ⟨hT, h7⟩ := List.forall_mem_append.mp hT
  have h7s : ∀ y ∈ sl cs 7 mZ (fun p => [o7, 0, q0, 0, q1, q2, 0, q3, 0, q4, 0, q5, 0, q6, q7, 0, q8, 0, q9, q10, q11, 0, 0, 0, 0, 0, 0, 0, q12, 0, q13, q14, q15, q16, 0, 0, q17, q18, q19, q20, q21, q22, q23, q24, q25, 0].getD p 0), va_at D vwCl y H := by
    rw [← sl7]
    exact List.forall_mem_cons.mpr ⟨h70, h7⟩
  obtain ⟨h60, hT⟩ := List.forall_mem_cons.mp hT
  obtain ⟨hT, h2⟩ := List.forall_mem_append.mp hT
  obtain ⟨hT, h5⟩ := List.forall_mem_append.mp hT
  obtain ⟨hT, hg0⟩ := List.forall_mem_append.mp hT
  obtain ⟨hT, hf0⟩ := List.forall_mem_append.mp hT
  obtain ⟨hT, hR⟩ := List.forall_mem_append.mp hT
  obtain ⟨hT, hf1⟩ := List.forall_mem_append.mp hT
  obtain ⟨hT, hg4⟩ := List.forall_mem_append.mp hT
  obtain ⟨hT, hf4⟩ := List.forall_mem_append.mp hT
  obtain ⟨-, hf3⟩ := List.forall_mem_append.mp hT
  obtain ⟨hrow, hR⟩ := List.forall_mem_cons.mp hR
  have hR : ∀ y ∈ sl cs 1 mZ s1 ++ (sl cs 1 mZ s2 ++ []), va_at D vwCl y H := hR
  obtain ⟨hs1, hR⟩ := List.forall_mem_append.mp hR
  obtain ⟨hs2, -⟩ := List.forall_mem_append.mp hR
  obtain ⟨h5, hM⟩ := List.forall_mem_append.mp h5
  obtain ⟨hM, hK⟩ := List.forall_mem_append.mp hM
  have hM : ∀ y ∈ sl cs 0 mZ m0 ++ (sl cs 0 mZ m1 ++ (sl cs 0 mZ m2 ++ (sl cs 0 mZ m3 ++ (sl cs 0 mZ m4 ++ (sl cs 0 mZ m5 ++ []))))), va_at D vwCl y H := hM
  have hK : ∀ y ∈ sl cs 0 mZ k0 ++ (sl cs 0 mZ k1 ++ (sl cs 0 mZ k2 ++ (sl cs 0 mZ k3 ++ (sl cs 0 mZ k4 ++ [])))), va_at D vwCl y H := hK
  obtain ⟨hm0, hM⟩ := List.forall_mem_append.mp hM
  obtain ⟨hm1, hM⟩ := List.forall_mem_append.mp hM
  obtain ⟨hm2, hM⟩ := List.forall_mem_append.mp hM
  obtain ⟨hm3, hM⟩ := List.forall_mem_append.mp hM
  obtain ⟨hm4, hM⟩ := List.forall_mem_append.mp hM
  obtain ⟨hm5, -⟩ := List.forall_mem_append.mp hM
  obtain ⟨hk0, hK⟩ := List.forall_mem_append.mp hK
  obtain ⟨hk1, hK⟩ := List.forall_mem_append.mp hK
  obtain ⟨hk2, hK⟩ := List.forall_mem_append.mp hK
  obtain ⟨hk3, hK⟩ := List.forall_mem_append.mp hK
  obtain ⟨hk4, -⟩ := List.forall_mem_append.mp hK
  obtain ⟨h50, h5⟩ := List.forall_mem_cons.mp h5
  obtain ⟨h51, h5⟩ := List.forall_mem_cons.mp h5
  obtain ⟨h53, h5⟩ := List.forall_mem_cons.mp h5
  obtain ⟨h55, h5⟩ := List.forall_mem_cons.mp h5
  obtain ⟨h56, h5⟩ := List.forall_mem_cons.mp h5
  obtain ⟨h57, -⟩ := List.forall_mem_cons.mp h5
  obtain ⟨h20, h2⟩ := List.forall_mem_cons.mp h2
  obtain ⟨h21, h2⟩ := List.forall_mem_cons.mp h2
  obtain ⟨h22, h2⟩ := List.forall_mem_cons.mp h2
  obtain ⟨h23, h2⟩ := List.forall_mem_cons.mp h2
  obtain ⟨h24, h2⟩ := List.forall_mem_cons.mp h2
  obtain ⟨h25, h2⟩ := List.forall_mem_cons.mp h2
  obtain ⟨h26, h2⟩ := List.forall_mem_cons.mp h2
  obtain ⟨h27, -⟩ := List.forall_mem_cons.mp h2
  generalize hadr : adr ((o, a), f3, f4, g4, f1, [s1, s2], f0, g0, (f5, [m0, m1, m2, m3, m4, m5], [k0, k1, k2, k3, k4]), f2) (fun p => [o7, 0, q0, 0, q1, q2, 0, q3, 0, q4, 0, q5, 0, q6, q7, 0, q8, 0, q9, q10, q11, 0, 0, 0, 0, 0, 0, 0, q12, 0, q13, q14, q15, q16, 0, 0, q17, q18, q19, q20, q21, q22, q23, q24, q25, 0].getD p 0) st b = ad
  have z0 : ∀ n p, mIz 0 n p = fun _ => 0 := fun n p => funext fun j => by simp [mIz]
  have z1 : ∀ n p, mIz 1 n p = fun _ => 0 := fun n p => funext fun j => by simp [mIz]
  have z3 : ∀ n p, mIz 3 n p = fun _ => 0 := fun n p => funext fun j => by simp [mIz]
  have z4 : ∀ n p, mIz 4 n p = fun _ => 0 := fun n p => funext fun j => by simp [mIz]
  have z7 : ∀ n p, mIz 7 n p = fun _ => 0 := fun n p => funext fun j => by simp [mIz]
  have key : ∀ c n p : Nat, c < 8 → n < cnts.getD c 0 → p ∈ prts c → va_at D vwCl (ad c n p, cel ad cs mIz (c, n, p)) H := by
    intro c n p hc hn hp
    match c, hc with
    | 0, _ =>
      match n, hn with
      | 0, _ => exact sm_at hf0 hp sm0 (fun p => by rw [← hadr]; rfl) (z0 _)
      | 1, _ => exact sm_at hg0 hp sm0 (fun p => by rw [← hadr]; rfl) (z0 _)
      | 2, _ => exact sm_at hm0 hp sm0 (fun p => by rw [← hadr]; rfl) (z0 _)
      | 3, _ => exact sm_at hm1 hp sm0 (fun p => by rw [← hadr]; rfl) (z0 _)
      | 4, _ => exact sm_at hm2 hp sm0 (fun p => by rw [← hadr]; rfl) (z0 _)
      | 5, _ => exact sm_at hm3 hp sm0 (fun p => by rw [← hadr]; rfl) (z0 _)
      | 6, _ => exact sm_at hm4 hp sm0 (fun p => by rw [← hadr]; rfl) (z0 _)
      | 7, _ => exact sm_at hm5 hp sm0 (fun p => by rw [← hadr]; rfl) (z0 _)
      | 8, _ => exact sm_at hk0 hp sm0 (fun p => by rw [← hadr]; rfl) (z0 _)
      | 9, _ => exact sm_at hk1 hp sm0 (fun p => by rw [← hadr]; rfl) (z0 _)
      | 10, _ => exact sm_at hk2 hp sm0 (fun p => by rw [← hadr]; rfl) (z0 _)
      | 11, _ => exact sm_at hk3 hp sm0 (fun p => by rw [← hadr]; rfl) (z0 _)
      | 12, _ => exact sm_at hk4 hp sm0 (fun p => by rw [← hadr]; rfl) (z0 _)
    | 1, _ =>
      match n, hn with
      | 0, _ => exact sm_at hf1 hp sm1 (fun p => by rw [← hadr]; rfl) (z1 _)
      | 1, _ => exact sm_at hs1 hp sm1 (fun p => by rw [← hadr]; rfl) (z1 _)
      | 2, _ => exact sm_at hs2 hp sm1 (fun p => by rw [← hadr]; rfl) (z1 _)
    | 2, _ =>
      match n, hn with
      | 0, _ =>
        rw [prts_2] at hp
        simp only [List.mem_cons, List.not_mem_nil, or_false] at hp
        subst hadr
        rcases hp with rfl | rfl | rfl | rfl | rfl | rfl | rfl | rfl
        · show va_at D vwCl (_, .inr (2, fls _ mIz 2 0)) H
          rw [fls_eq, fkl_2]
          exact h20
        · exact h21
        · exact h22
        · refine Eq.trans (b := some (vp_cell (cs 4) (4, .inr (.inr (.inr (.inr fun i => if i < 4 then some (f2 (4 + i)) else none)))))) h23 (congrArg some (refs_eq fun i hi => ?_))
          match i, hi with
          | 0, _ => rfl
          | 1, _ => rfl
          | 2, _ => rfl
          | 3, _ => rfl
        · exact h24
        · exact h25
        · exact h26
        · exact h27
    | 3, _ =>
      match n, hn with
      | 0, _ => exact sm_at hf3 hp sm3 (fun p => by rw [← hadr]; rfl) (z3 _)
    | 4, _ =>
      match n, hn with
      | 0, _ => exact sm_at hf4 hp sm4 (fun p => by rw [← hadr]; rfl) (z4 _)
      | 1, _ => exact sm_at hg4 hp sm4 (fun p => by rw [← hadr]; rfl) (z4 _)
    | 5, _ =>
      match n, hn with
      | 0, _ =>
        rw [prts_5] at hp
        simp only [List.mem_cons, List.not_mem_nil, or_false] at hp
        subst hadr
        rcases hp with rfl | rfl | rfl | rfl | rfl | rfl
        · show va_at D vwCl (_, .inr (5, fls _ mIz 5 0)) H
          rw [fls_eq, fkl_5]
          exact h50
        · exact h51
        · exact h53
        · exact h55
        · refine Eq.trans (b := some (vp_cell (cs 3) (6, .inr (.inr (.inr (.inr (refsOf [m0, m1, m2, m3, m4, m5]))))))) h56 (congrArg some (refs_eq fun i hi => ?_))
          match i, hi with
          | 0, _ => rfl
          | 1, _ => rfl
          | 2, _ => rfl
          | 3, _ => rfl
          | 4, _ => rfl
          | 5, _ => rfl
        · refine Eq.trans (b := some (vp_cell (cs 3) (5, .inr (.inr (.inr (.inr (refsOf [k0, k1, k2, k3, k4]))))))) h57 (congrArg some (refs_eq fun i hi => ?_))
          match i, hi with
          | 0, _ => rfl
          | 1, _ => rfl
          | 2, _ => rfl
          | 3, _ => rfl
          | 4, _ => rfl
    | 6, _ =>
      match n, hn with
      | 0, _ =>
        rw [prts_6] at hp
        simp only [List.mem_cons, List.not_mem_nil, or_false] at hp
        subst hadr
        rcases hp with rfl | rfl
        · show va_at D vwCl (_, .inr (6, fls _ mIz 6 0)) H
          rw [fls_eq, fkl_6]
          exact h60
        · refine Eq.trans (b := some (vp_cell (cs 2) (2, .inr (.inr (.inr (.inr (refsOf [s1, s2]))))))) hrow (congrArg some (refs_eq fun i hi => ?_))
          match i, hi with
          | 0, _ => rfl
          | 1, _ => rfl
    | 7, _ =>
      match n, hn with
      | 0, _ => exact sm_at h7s hp sm7 (fun p => by rw [← hadr]; rfl) (z7 _)
  intro k x hx
  obtain ⟨y, hy, rfl⟩ := List.mem_map.mp (List.mem_of_getElem? hx)
  obtain ⟨hc, hn, hp⟩ := cells_c y hy
  exact key y.1 y.2.1 y.2.2 hc hn hp
theorem inj_of {A : Nat → Prop} {T : va_W} (hD : va_D A T) (hT : (T.map fun x => x.1) = tgT.map fun x => ad x.1 x.2.1 x.2.2) : Inj_ ad A := by
  have hg : ∀ (k : Nat) (x : Nat × Nat × Nat), tgT[k]? = some x → ∃ e : va_E, T[k]? = some (ad x.1 x.2.1 x.2.2, e) := fun k x hx => by
    have h1 : (T.map fun x => x.1)[k]? = some (ad x.1 x.2.1 x.2.2) := by rw [hT, List.getElem?_map, hx]; rfl
    rw [List.getElem?_map] at h1
    cases hk : T[k]? with
    | none => rw [hk] at h1; cases h1
    | some q =>
      rw [hk] at h1
      have h1 : q.1 = _ := Option.some.inj h1
      exact ⟨q.2, by rw [← h1]⟩
  refine ⟨fun x hx y hy he => ?_, fun x hx => ?_⟩
  · obtain ⟨i, hi⟩ := List.getElem?_of_mem (tgT_all x hx)
    obtain ⟨j, hj⟩ := List.getElem?_of_mem (tgT_all y hy)
    obtain ⟨e1, h1⟩ := hg i x hi
    obtain ⟨e2, h2⟩ := hg j y hj
    have := hD.1 i j _ _ h1 h2 he
    subst this
    rw [hi] at hj
    exact Option.some.inj hj
  · obtain ⟨i, hi⟩ := List.getElem?_of_mem (tgT_all x hx)
    obtain ⟨e1, h1⟩ := hg i x hi
    exact hD.2 i _ h1
end WOF
