/-! THE WORLD behind the constructor: every cell of the abstract memory has its address. -/
def mIz : Mem_ := fun c _ p j => if c = 2 ∧ p = 1 then szF 4 j else if c = 6 ∧ p = 0 ∧ j = 2 then 1 else 0
def adr (u : S6_) (f7 st : Nat → Nat) (b : Nat) : AD_ := fun c n p => match c with
  | 0 => ((u.2.2.2.2.2.2.1 :: u.2.2.2.2.2.2.2.1 :: (u.2.2.2.2.2.2.2.2.1.2.1 ++ u.2.2.2.2.2.2.2.2.1.2.2)).getD n (fun _ => 0)) p
  | 1 => ((u.2.2.2.2.1 :: u.2.2.2.2.2.1).getD n (fun _ => 0)) p
  | 2 => u.2.2.2.2.2.2.2.2.2 p
  | 3 => u.2.1 p
  | 4 => ([u.2.2.1, u.2.2.2.1].getD n (fun _ => 0)) p
  | 5 => u.2.2.2.2.2.2.2.2.1.1 p
  | 6 => bif p.beq 0 then u.1.1 else u.1.2
  | 7 => f7 p
  | 8 => b
  | 9 => st n
  | _ => 0
def smp (c : Nat) : Bool := ((List.range (rcl c).2.2).all fun k => (fkd c k).blt 2) && (prts c).all fun p => p.beq 0 || (aty c p).blt 2
theorem cells_c : ∀ x ∈ cellsB, x.1 < 7 ∧ x.2.1 < cnts.getD x.1 0 ∧ x.2.2 ∈ prts x.1 := by
  intro x hx
  unfold cellsB at hx
  obtain ⟨c, hc, hx⟩ := List.mem_flatMap.mp hx
  obtain ⟨n, hn, hx⟩ := List.mem_flatMap.mp hx
  obtain ⟨p, hp, rfl⟩ := List.mem_map.mp hx
  exact ⟨List.mem_range.mp hc, List.mem_range.mp hn, hp⟩
theorem cells_0 : cellsL 0 = cellsB := List.append_nil _
theorem refs_eq {c : ClassId} {N : Nat} {f g : Nat → Option Nat} (h : ∀ i, i < N → f i = g i) : vp_cell c (N, .inr (.inr (.inr (.inr f)))) = vp_cell c (N, .inr (.inr (.inr (.inr g)))) := by
  rw [vp_cell_q, vp_cell_q]
  unfold arrV
  congr 1
  congr 1
  funext j
  show va_rf (f j.val) = va_rf (g j.val)
  rw [h j.val j.isLt]
theorem prts_0 : prts 0 = [0, 2, 3, 4, 5, 6] := by decide +kernel
theorem prts_1 : prts 1 = [0, 2, 3, 4, 7, 8] := by decide +kernel
theorem prts_2 : prts 2 = [0, 1, 2, 3, 4, 5, 6, 7] := by decide +kernel
theorem prts_3 : prts 3 = [0, 1] := by decide +kernel
theorem prts_4 : prts 4 = [0, 5, 6, 7, 8, 9, 10, 11, 12, 13, 14, 15, 16, 17, 18, 19] := by decide +kernel
theorem prts_5 : prts 5 = [0, 1, 3, 5, 6, 7] := by decide +kernel
theorem prts_6 : prts 6 = [0, 5] := by decide +kernel
section WOF
variable {D : va_G} {cs : Nat → ClassId} {H : Heap} {ad : AD_} {O : Mem_}
theorem sm_at {c n p : Nat} {f : Nat → Nat} (hs : ∀ y ∈ sl cs c mZ f, va_at D vwCl y H) (hp : p ∈ prts c) (hc : smp c = true) (hf : ∀ p, ad c n p = f p) (hO : ∀ p, O c n p = fun _ => 0) : va_at D vwCl (ad c n p, cel ad cs O (c, n, p)) H := by
  have e : (ad c n p, cel ad cs O (c, n, p)) = (f p, cel (fun _ _ p => f p) cs mZ (c, 0, p)) := by
    unfold smp at hc
    rw [Bool.and_eq_true] at hc
    cases p with
    | zero =>
      rw [hf]
      refine congrArg (Prod.mk (f 0)) ?_
      simp only [cel, fls]
      refine congrArg (fun l => (Sum.inr (c, l) : va_E)) (List.map_congr_left fun k hk => ?_)
      have h1 := Nat.blt_eq.mp (List.all_eq_true.mp hc.1 k hk)
      generalize fkd c k = z at h1
      match z, h1 with
      | 0, _ =>
        show Value.int (O c n 0 k) = Value.int 0
        rw [hO]
      | 1, _ =>
        show Value.ref (ad c n (k + 1)) = Value.ref (f (k + 1))
        rw [hf]
    | succ p =>
      rw [hf]
      refine congrArg (Prod.mk (f (p + 1))) ?_
      have h1 := List.all_eq_true.mp hc.2 _ hp
      have h2 : (aty c (p + 1)).blt 2 = true := by
        rw [Bool.or_eq_true] at h1
        rcases h1 with h1 | h1
        · cases h1
        · exact h1
      simp only [cel, h2, cond_true, hO]
      rfl
  rw [e]
  exact hs _ (List.mem_map.mpr ⟨p, hp, rfl⟩)
theorem sm_all : smp 0 = true ∧ smp 1 = true ∧ smp 3 = true ∧ smp 4 = true := by decide +kernel
theorem all_at {ws : va_W} (h : va_P D vwCl ws H) : ∀ x ∈ ws, va_at D vwCl x H := fun x hx => by
  obtain ⟨k, hk⟩ := List.getElem?_of_mem hx
  exact h k x hk
def tgT : List (Nat × Nat × Nat) := [(6, 0, 0), (3, 0, 0), (3, 0, 1), (4, 0, 0), (4, 0, 5), (4, 0, 6), (4, 0, 7), (4, 0, 8), (4, 0, 9), (4, 0, 10), (4, 0, 11), (4, 0, 12), (4, 0, 13), (4, 0, 14), (4, 0, 15), (4, 0, 16), (4, 0, 17), (4, 0, 18), (4, 0, 19), (4, 1, 0), (4, 1, 5), (4, 1, 6), (4, 1, 7), (4, 1, 8), (4, 1, 9), (4, 1, 10), (4, 1, 11), (4, 1, 12), (4, 1, 13), (4, 1, 14), (4, 1, 15), (4, 1, 16), (4, 1, 17), (4, 1, 18), (4, 1, 19), (1, 0, 0), (1, 0, 2), (1, 0, 3), (1, 0, 4), (1, 0, 7), (1, 0, 8), (6, 0, 5), (1, 1, 0), (1, 1, 2), (1, 1, 3), (1, 1, 4), (1, 1, 7), (1, 1, 8), (1, 2, 0), (1, 2, 2), (1, 2, 3), (1, 2, 4), (1, 2, 7), (1, 2, 8), (0, 0, 0), (0, 0, 2), (0, 0, 3), (0, 0, 4), (0, 0, 5), (0, 0, 6), (0, 1, 0), (0, 1, 2), (0, 1, 3), (0, 1, 4), (0, 1, 5), (0, 1, 6), (5, 0, 0), (5, 0, 1), (5, 0, 3), (5, 0, 5), (5, 0, 6), (5, 0, 7), (0, 2, 0), (0, 2, 2), (0, 2, 3), (0, 2, 4), (0, 2, 5), (0, 2, 6), (0, 3, 0), (0, 3, 2), (0, 3, 3), (0, 3, 4), (0, 3, 5), (0, 3, 6), (0, 4, 0), (0, 4, 2), (0, 4, 3), (0, 4, 4), (0, 4, 5), (0, 4, 6), (0, 5, 0), (0, 5, 2), (0, 5, 3), (0, 5, 4), (0, 5, 5), (0, 5, 6), (0, 6, 0), (0, 6, 2), (0, 6, 3), (0, 6, 4), (0, 6, 5), (0, 6, 6), (0, 7, 0), (0, 7, 2), (0, 7, 3), (0, 7, 4), (0, 7, 5), (0, 7, 6), (0, 8, 0), (0, 8, 2), (0, 8, 3), (0, 8, 4), (0, 8, 5), (0, 8, 6), (0, 9, 0), (0, 9, 2), (0, 9, 3), (0, 9, 4), (0, 9, 5), (0, 9, 6), (0, 10, 0), (0, 10, 2), (0, 10, 3), (0, 10, 4), (0, 10, 5), (0, 10, 6), (0, 11, 0), (0, 11, 2), (0, 11, 3), (0, 11, 4), (0, 11, 5), (0, 11, 6), (0, 12, 0), (0, 12, 2), (0, 12, 3), (0, 12, 4), (0, 12, 5), (0, 12, 6), (2, 0, 0), (2, 0, 1), (2, 0, 2), (2, 0, 3), (2, 0, 4), (2, 0, 5), (2, 0, 6), (2, 0, 7)]
theorem tgT_all : ∀ x ∈ cellsB, x ∈ tgT := by decide +kernel
def fkl (c : Nat) : List (Nat × Nat) := (List.range (rcl c).2.2).map fun k => (k, fkd c k)
def ptl (c : Nat) : List (Nat × Nat × Nat) := (prts c).tail.map fun p => (p, aty c p, aln c p)
theorem fkl_2 : fkl 2 = [(0, 1), (1, 1), (2, 1)] := by decide +kernel
theorem fkl_5 : fkl 5 = [(0, 1), (1, 0), (2, 1), (3, 0), (4, 1), (5, 1), (6, 1), (7, 0), (8, 0), (9, 0)] := by decide +kernel
theorem fkl_6 : fkl 6 = [(0, 51), (1, 2), (2, 2), (3, 19), (4, 1), (5, 3), (6, 4), (7, 83), (8, 35), (9, 0)] := by decide +kernel
theorem fls_eq {c n : Nat} : fls ad O c n = (fkl c).map fun q => cv ad (gfv q.2 c n q.1 O) := by
  unfold fls fkl
  rw [List.map_map]
  rfl
theorem dfs_eq {c : Nat} : dfv c = (fkl c).map fun q => if q.2 = 0 then .int 0 else .null := by
  unfold dfv fkl
  rw [List.map_map]
  rfl
theorem sl_eq {c : Nat} {f : Nat → Nat} (hs : smp c = true) (hz0 : 0 ∉ (prts c).tail) : sl cs c mZ f = (f 0, .inr (c, (fkl c).map fun q => if q.2 = 0 then .int 0 else .ref (f (q.1 + 1)))) :: (ptl c).map fun t => (f t.1, .inl (cs t.2.1, t.2.2, .inl fun _ => 0)) := by
  unfold smp at hs
  rw [Bool.and_eq_true] at hs
  unfold sl ptl
  rw [show prts c = 0 :: (prts c).tail from rfl, List.map_cons, List.map_map, List.tail_cons]
  refine congr (congrArg List.cons ?_) (List.map_congr_left fun p hp => ?_)
  · refine congrArg (Prod.mk (f 0)) ?_
    simp only [cel]
    rw [fls_eq]
    refine congrArg (fun l => (Sum.inr (c, l) : va_E)) (List.map_congr_left fun q hq => ?_)
    obtain ⟨k, hk, rfl⟩ := List.mem_map.mp hq
    have h1 := Nat.blt_eq.mp (List.all_eq_true.mp hs.1 k hk)
    show cv _ (gfv (fkd c k) c 0 k mZ) = if fkd c k = 0 then Value.int 0 else Value.ref (f (k + 1))
    generalize fkd c k = z at h1
    match z, h1 with
    | 0, _ => rfl
    | 1, _ => rfl
  · have h1 := List.all_eq_true.mp hs.2 p (List.mem_cons_of_mem _ hp)
    rw [Bool.or_eq_true] at h1
    cases p with
    | zero =>
      exfalso
      exact hz0 hp
    | succ p =>
      have h2 : (aty c (p + 1)).blt 2 = true := by
        rcases h1 with h1 | h1
        · cases h1
        · exact h1
      simp only [cel, h2, cond_true, Function.comp]
      rfl
theorem l_cons {α : Type} {n : Nat} {l : List α} (h : l.length = n + 1) : ∃ a t, l = a :: t ∧ t.length = n := by
  cases l with
  | nil => cases h
  | cons a t => exact ⟨a, t, rfl, Nat.succ.inj h⟩
set_option maxRecDepth 40000 in
theorem tag7 {cs : Nat → ClassId} {o a b : Nat} {f3 f4 g4 f1 s1 s2 f0 g0 f5 m0 m1 m2 m3 m4 m5 k0 k1 k2 k3 k4 f2 st f7 : Nat → Nat} : ((w6 cs ((o, a), f3, f4, g4, f1, [s1, s2], f0, g0, (f5, [m0, m1, m2, m3, m4, m5], [k0, k1, k2, k3, k4]), f2) : va_W).map fun x => x.1) = tgT.map fun x => adr ((o, a), f3, f4, g4, f1, [s1, s2], f0, g0, (f5, [m0, m1, m2, m3, m4, m5], [k0, k1, k2, k3, k4]), f2) f7 st b x.1 x.2.1 x.2.2 := by
  simp only [w6, w5, w2, sl, prts_0, prts_1, prts_3, prts_4, List.map_cons, List.map_nil, List.flatMap_cons, List.flatMap_nil, List.cons_append, List.nil_append, List.append_nil]
  rfl
set_option maxRecDepth 40000 in
set_option maxHeartbeats 4000000 in
theorem wo_of {u : S6_} {b : Nat} {st f7 : Nat → Nat} (hu : pst6 u) (hP : va_P D vwCl (w6 cs u) H) :
    va_P D vwCl (wo 0 (adr u f7 st b) cs mIz) H ∧ ((w6 cs u : va_W).map fun x => x.1) = tgT.map fun x => adr u f7 st b x.1 x.2.1 x.2.2 := by
  obtain ⟨⟨o, a⟩, f3, f4, g4, f1, gs, f0, g0, ⟨f5, ms, ks⟩, f2⟩ := u
  obtain ⟨hg, hm, hk⟩ := hu
  obtain ⟨s1, s2, rfl⟩ : ∃ a b, gs = [a, b] := by
    match gs, hg with
    | [a, b], _ => exact ⟨a, b, rfl⟩
  obtain ⟨m0, m1, m2, m3, m4, m5, rfl⟩ : ∃ a b c d e f, ms = [a, b, c, d, e, f] := by
    match ms, hm with
    | [a, b, c, d, e, f], _ => exact ⟨a, b, c, d, e, f, rfl⟩
  obtain ⟨k0, k1, k2, k3, k4, rfl⟩ : ∃ a b c d e, ks = [a, b, c, d, e] := by
    match ks, hk with
    | [a, b, c, d, e], _ => exact ⟨a, b, c, d, e, rfl⟩
  refine ⟨?_, tag7⟩
  obtain ⟨sm0, sm1, sm3, sm4⟩ := sm_all
  have hT := all_at hP
  obtain ⟨h60, hT⟩ := List.forall_mem_cons.mp hT
  obtain ⟨hT, h2⟩ := List.forall_mem_append.mp hT
  obtain ⟨hT, h5⟩ := List.forall_mem_append.mp hT
  obtain ⟨hT, hg0⟩ := List.forall_mem_append.mp hT
  obtain ⟨hT, hf0⟩ := List.forall_mem_append.mp hT
  obtain ⟨hT, hR⟩ := List.forall_mem_append.mp hT
  obtain ⟨hT, hf1⟩ := List.forall_mem_append.mp hT
  obtain ⟨hT, hg4⟩ := List.forall_mem_append.mp hT
  obtain ⟨hT, hf4⟩ := List.forall_mem_append.mp hT
  obtain ⟨-, hf3⟩ := List.forall_mem_append.mp hT
  obtain ⟨hrow, hR⟩ := List.forall_mem_cons.mp hR
  have hR : ∀ y ∈ sl cs 1 mZ s1 ++ (sl cs 1 mZ s2 ++ []), va_at D vwCl y H := hR
  obtain ⟨hs1, hR⟩ := List.forall_mem_append.mp hR
  obtain ⟨hs2, -⟩ := List.forall_mem_append.mp hR
  obtain ⟨h5, hM⟩ := List.forall_mem_append.mp h5
  obtain ⟨hM, hK⟩ := List.forall_mem_append.mp hM
  have hM : ∀ y ∈ sl cs 0 mZ m0 ++ (sl cs 0 mZ m1 ++ (sl cs 0 mZ m2 ++ (sl cs 0 mZ m3 ++ (sl cs 0 mZ m4 ++ (sl cs 0 mZ m5 ++ []))))), va_at D vwCl y H := hM
  have hK : ∀ y ∈ sl cs 0 mZ k0 ++ (sl cs 0 mZ k1 ++ (sl cs 0 mZ k2 ++ (sl cs 0 mZ k3 ++ (sl cs 0 mZ k4 ++ [])))), va_at D vwCl y H := hK
  obtain ⟨hm0, hM⟩ := List.forall_mem_append.mp hM
  obtain ⟨hm1, hM⟩ := List.forall_mem_append.mp hM
  obtain ⟨hm2, hM⟩ := List.forall_mem_append.mp hM
  obtain ⟨hm3, hM⟩ := List.forall_mem_append.mp hM
  obtain ⟨hm4, hM⟩ := List.forall_mem_append.mp hM
  obtain ⟨hm5, -⟩ := List.forall_mem_append.mp hM
  obtain ⟨hk0, hK⟩ := List.forall_mem_append.mp hK
  obtain ⟨hk1, hK⟩ := List.forall_mem_append.mp hK
  obtain ⟨hk2, hK⟩ := List.forall_mem_append.mp hK
  obtain ⟨hk3, hK⟩ := List.forall_mem_append.mp hK
  obtain ⟨hk4, -⟩ := List.forall_mem_append.mp hK
  obtain ⟨h50, h5⟩ := List.forall_mem_cons.mp h5
  obtain ⟨h51, h5⟩ := List.forall_mem_cons.mp h5
  obtain ⟨h53, h5⟩ := List.forall_mem_cons.mp h5
  obtain ⟨h55, h5⟩ := List.forall_mem_cons.mp h5
  obtain ⟨h56, h5⟩ := List.forall_mem_cons.mp h5
  obtain ⟨h57, -⟩ := List.forall_mem_cons.mp h5
  obtain ⟨h20, h2⟩ := List.forall_mem_cons.mp h2
  obtain ⟨h21, h2⟩ := List.forall_mem_cons.mp h2
  obtain ⟨h22, h2⟩ := List.forall_mem_cons.mp h2
  obtain ⟨h23, h2⟩ := List.forall_mem_cons.mp h2
  obtain ⟨h24, h2⟩ := List.forall_mem_cons.mp h2
  obtain ⟨h25, h2⟩ := List.forall_mem_cons.mp h2
  obtain ⟨h26, h2⟩ := List.forall_mem_cons.mp h2
  obtain ⟨h27, -⟩ := List.forall_mem_cons.mp h2
  generalize hadr : adr ((o, a), f3, f4, g4, f1, [s1, s2], f0, g0, (f5, [m0, m1, m2, m3, m4, m5], [k0, k1, k2, k3, k4]), f2) f7 st b = ad
  have z0 : ∀ n p, mIz 0 n p = fun _ => 0 := fun n p => funext fun j => by simp [mIz]
  have z1 : ∀ n p, mIz 1 n p = fun _ => 0 := fun n p => funext fun j => by simp [mIz]
  have z3 : ∀ n p, mIz 3 n p = fun _ => 0 := fun n p => funext fun j => by simp [mIz]
  have z4 : ∀ n p, mIz 4 n p = fun _ => 0 := fun n p => funext fun j => by simp [mIz]
  have key : ∀ c n p : Nat, c < 7 → n < cnts.getD c 0 → p ∈ prts c → va_at D vwCl (ad c n p, cel ad cs mIz (c, n, p)) H := by
    intro c n p hc hn hp
    match c, hc with
    | 0, _ =>
      match n, hn with
      | 0, _ => exact sm_at hf0 hp sm0 (fun p => by rw [← hadr]; rfl) (z0 _)
      | 1, _ => exact sm_at hg0 hp sm0 (fun p => by rw [← hadr]; rfl) (z0 _)
      | 2, _ => exact sm_at hm0 hp sm0 (fun p => by rw [← hadr]; rfl) (z0 _)
      | 3, _ => exact sm_at hm1 hp sm0 (fun p => by rw [← hadr]; rfl) (z0 _)
      | 4, _ => exact sm_at hm2 hp sm0 (fun p => by rw [← hadr]; rfl) (z0 _)
      | 5, _ => exact sm_at hm3 hp sm0 (fun p => by rw [← hadr]; rfl) (z0 _)
      | 6, _ => exact sm_at hm4 hp sm0 (fun p => by rw [← hadr]; rfl) (z0 _)
      | 7, _ => exact sm_at hm5 hp sm0 (fun p => by rw [← hadr]; rfl) (z0 _)
      | 8, _ => exact sm_at hk0 hp sm0 (fun p => by rw [← hadr]; rfl) (z0 _)
      | 9, _ => exact sm_at hk1 hp sm0 (fun p => by rw [← hadr]; rfl) (z0 _)
      | 10, _ => exact sm_at hk2 hp sm0 (fun p => by rw [← hadr]; rfl) (z0 _)
      | 11, _ => exact sm_at hk3 hp sm0 (fun p => by rw [← hadr]; rfl) (z0 _)
      | 12, _ => exact sm_at hk4 hp sm0 (fun p => by rw [← hadr]; rfl) (z0 _)
    | 1, _ =>
      match n, hn with
      | 0, _ => exact sm_at hf1 hp sm1 (fun p => by rw [← hadr]; rfl) (z1 _)
      | 1, _ => exact sm_at hs1 hp sm1 (fun p => by rw [← hadr]; rfl) (z1 _)
      | 2, _ => exact sm_at hs2 hp sm1 (fun p => by rw [← hadr]; rfl) (z1 _)
    | 2, _ =>
      match n, hn with
      | 0, _ =>
        rw [prts_2] at hp
        simp only [List.mem_cons, List.not_mem_nil, or_false] at hp
        subst hadr
        rcases hp with rfl | rfl | rfl | rfl | rfl | rfl | rfl | rfl
        · show va_at D vwCl (_, .inr (2, fls _ mIz 2 0)) H
          rw [fls_eq, fkl_2]
          exact h20
        · exact h21
        · exact h22
        · refine Eq.trans (b := some (vp_cell (cs 4) (4, .inr (.inr (.inr (.inr fun i => if i < 4 then some (f2 (4 + i)) else none)))))) h23 (congrArg some (refs_eq fun i hi => ?_))
          match i, hi with
          | 0, _ => rfl
          | 1, _ => rfl
          | 2, _ => rfl
          | 3, _ => rfl
        · exact h24
        · exact h25
        · exact h26
        · exact h27
    | 3, _ =>
      match n, hn with
      | 0, _ => exact sm_at hf3 hp sm3 (fun p => by rw [← hadr]; rfl) (z3 _)
    | 4, _ =>
      match n, hn with
      | 0, _ => exact sm_at hf4 hp sm4 (fun p => by rw [← hadr]; rfl) (z4 _)
      | 1, _ => exact sm_at hg4 hp sm4 (fun p => by rw [← hadr]; rfl) (z4 _)
    | 5, _ =>
      match n, hn with
      | 0, _ =>
        rw [prts_5] at hp
        simp only [List.mem_cons, List.not_mem_nil, or_false] at hp
        subst hadr
        rcases hp with rfl | rfl | rfl | rfl | rfl | rfl
        · show va_at D vwCl (_, .inr (5, fls _ mIz 5 0)) H
          rw [fls_eq, fkl_5]
          exact h50
        · exact h51
        · exact h53
        · exact h55
        · refine Eq.trans (b := some (vp_cell (cs 3) (6, .inr (.inr (.inr (.inr (refsOf [m0, m1, m2, m3, m4, m5]))))))) h56 (congrArg some (refs_eq fun i hi => ?_))
          match i, hi with
          | 0, _ => rfl
          | 1, _ => rfl
          | 2, _ => rfl
          | 3, _ => rfl
          | 4, _ => rfl
          | 5, _ => rfl
        · refine Eq.trans (b := some (vp_cell (cs 3) (5, .inr (.inr (.inr (.inr (refsOf [k0, k1, k2, k3, k4]))))))) h57 (congrArg some (refs_eq fun i hi => ?_))
          match i, hi with
          | 0, _ => rfl
          | 1, _ => rfl
          | 2, _ => rfl
          | 3, _ => rfl
          | 4, _ => rfl
    | 6, _ =>
      match n, hn with
      | 0, _ =>
        rw [prts_6] at hp
        simp only [List.mem_cons, List.not_mem_nil, or_false] at hp
        subst hadr
        rcases hp with rfl | rfl
        · show va_at D vwCl (_, .inr (6, fls _ mIz 6 0)) H
          rw [fls_eq, fkl_6]
          exact h60
        · refine Eq.trans (b := some (vp_cell (cs 2) (2, .inr (.inr (.inr (.inr (refsOf [s1, s2]))))))) hrow (congrArg some (refs_eq fun i hi => ?_))
          match i, hi with
          | 0, _ => rfl
          | 1, _ => rfl
  intro k x hx
  obtain ⟨y, hy, rfl⟩ := List.mem_map.mp (List.mem_of_getElem? hx)
  rw [cells_0] at hy
  obtain ⟨hc, hn, hp⟩ := cells_c y hy
  exact key y.1 y.2.1 y.2.2 hc hn hp
theorem inj_of {A : Nat → Prop} {T : va_W} (hD : va_D A T) (hT : (T.map fun x => x.1) = tgT.map fun x => ad x.1 x.2.1 x.2.2) : Inj_ 0 ad A := by
  have hg : ∀ (k : Nat) (x : Nat × Nat × Nat), tgT[k]? = some x → ∃ e : va_E, T[k]? = some (ad x.1 x.2.1 x.2.2, e) := fun k x hx => by
    have h1 : (T.map fun x => x.1)[k]? = some (ad x.1 x.2.1 x.2.2) := by rw [hT, List.getElem?_map, hx]; rfl
    rw [List.getElem?_map] at h1
    cases hk : T[k]? with
    | none => rw [hk] at h1; cases h1
    | some q =>
      rw [hk] at h1
      have h1 : q.1 = _ := Option.some.inj h1
      exact ⟨q.2, by rw [← h1]⟩
  refine ⟨fun x hx y hy he => ?_, fun x hx => ?_⟩
  · obtain ⟨i, hi⟩ := List.getElem?_of_mem (tgT_all x (by rw [← cells_0]; exact hx))
    obtain ⟨j, hj⟩ := List.getElem?_of_mem (tgT_all y (by rw [← cells_0]; exact hy))
    obtain ⟨e1, h1⟩ := hg i x hi
    obtain ⟨e2, h2⟩ := hg j y hj
    have := hD.1 i j _ _ h1 h2 he
    subst this
    rw [hi] at hj
    exact Option.some.inj hj
  · obtain ⟨i, hi⟩ := List.getElem?_of_mem (tgT_all x (by rw [← cells_0]; exact hx))
    obtain ⟨e1, h1⟩ := hg i x hi
    exact hD.2 i _ h1
end WOF
/-! THE LAW'S ROWS, one by one. -/
theorem cells_at {lw : Nat} {c n p : Nat} (h : (c, n, p) ∈ cellsL lw) : (c, n, p) ∈ cellsB ∨ (c = 7 ∧ n = 0 ∧ p ∈ lawR lw) := by
  unfold cellsL at h
  rcases List.mem_append.mp h with h | h
  · exact Or.inl h
  · obtain ⟨q, hq, e⟩ := List.mem_map.mp h
    cases e
    exact Or.inr ⟨rfl, rfl, hq⟩
theorem base_in {lw : Nat} {x : Nat × Nat × Nat} (h : x ∈ cellsB) : x ∈ cellsL lw := List.mem_append_left _ h
def adu (ad : AD_) (p0 q : Nat) : AD_ := fun c n p => if c = 7 ∧ n = 0 ∧ p = p0 then q else ad c n p
def zer (O : Mem_) (p0 : Nat) : Mem_ := fun c n p j => if c = 7 ∧ n = 0 ∧ p = p0 then 0 else O c n p j
theorem adu_eq (ad : AD_) (p0 q : Nat) : adu ad p0 q 7 0 p0 = q := by unfold adu; rw [if_pos ⟨rfl, rfl, rfl⟩]
theorem adu_ne {ad : AD_} {p0 q c n p : Nat} (h : ¬ (c = 7 ∧ n = 0 ∧ p = p0)) : adu ad p0 q c n p = ad c n p := by unfold adu; rw [if_neg h]
theorem zer_ne {O : Mem_} {p0 c n p : Nat} (h : ¬ (c = 7 ∧ n = 0 ∧ p = p0)) : zer O p0 c n p = O c n p := by funext j; unfold zer; rw [if_neg h]
theorem zer_eq (O : Mem_) (p0 : Nat) : zer O p0 7 0 p0 = fun _ => 0 := by funext j; unfold zer; rw [if_pos ⟨rfl, rfl, rfl⟩]
section GROW
variable {lw lw' p0 q : Nat} {ad : AD_} {cs : Nat → ClassId} {O : Mem_} {A : Nat → Prop}
theorem law_aty_ : ∀ lw, lw < 10 → ∀ p ∈ lawR lw, p ≠ 0 ∧ (aty 7 p = 0 ∨ aty 7 p = 5) := by decide +kernel
theorem lawR_min (lw : Nat) : lawR lw = lawR (min lw 9) := by
  unfold lawR
  rw [Nat.min_eq_left (Nat.min_le_right lw 9)]
theorem law_aty {p : Nat} (h : p ∈ lawR lw) : p ≠ 0 ∧ (aty 7 p = 0 ∨ aty 7 p = 5) := by
  rw [lawR_min] at h
  exact law_aty_ _ (by omega) _ h
theorem cel_adu {c n p : Nat} (hx : (c, n, p) ∈ cellsB) : cel (adu ad p0 q) cs O (c, n, p) = cel ad cs O (c, n, p) := by
  have hc : c < 7 := (cells_c _ hx).1
  cases p with
  | zero =>
    simp only [cel, fls]
    refine congrArg (fun l => (Sum.inr (c, l) : va_E)) (List.map_congr_left fun k hk => ?_)
    have h := cell_fld (lw := 0) (O := O) (base_in hx) (List.mem_range.mp hk)
    revert h
    generalize fkd c k = z
    intro h
    match z, h with
    | 0, _ => rfl
    | 1, _ =>
      show Value.ref (adu ad p0 q c n (k + 1)) = _
      rw [adu_ne (by omega)]
      rfl
    | 2, _ =>
      show Value.ref (adu ad p0 q 4 _ 0) = _
      rw [adu_ne (by omega)]
      rfl
    | m + 3, h =>
      show Value.ref (adu ad p0 q (m / 16) (m % 16) 0) = _
      rw [adu_ne]
      · rfl
      · rintro ⟨e, -, -⟩
        have h : okc 0 (m / 16) (m % 16) 0 := h
        rcases h with h | ⟨h, -⟩ | ⟨h, -⟩
        · have := cell_obj h
          omega
        · omega
        · omega
  | succ p =>
    have hr : ∀ i, rad (adu ad p0 q) (aref c n (p + 1) i) = rad ad (aref c n (p + 1) i) := by
      intro i
      match c, hc with
      | 0, _ => exact adu_ne (by omega)
      | 1, _ => exact adu_ne (by omega)
      | 2, _ => exact adu_ne (by omega)
      | 3, _ => exact adu_ne (by omega)
      | 4, _ => exact adu_ne (by omega)
      | 5, _ =>
        by_cases h6 : p + 1 = 6
        · rw [h6]; exact adu_ne (by omega)
        · have e : aref 5 n (p + 1) i = vr 0 (8 + i) 0 := by
            match p, h6 with
            | 0, _ => rfl
            | 1, _ => rfl
            | 2, _ => rfl
            | 3, _ => rfl
            | 4, _ => rfl
            | 5, h6 => exact absurd rfl h6
            | q + 6, _ => rfl
          rw [e]
          exact adu_ne (by omega)
      | 6, _ => exact adu_ne (by omega)
    simp only [cel, hr]
theorem cel_7 {p : Nat} (h : p ≠ 0) (ht : aty 7 p = 0) : cel ad cs O (7, 0, p) = .inl (cs 0, aln 7 p, .inl (O 7 0 p)) := by
  obtain ⟨p, rfl⟩ : ∃ p', p = p' + 1 := ⟨p - 1, by omega⟩
  exact cel_int (by decide) ht
theorem cel_7L {p : Nat} (h : p ≠ 0) (ht : aty 7 p = 5) : cel ad cs O (7, 0, p) = .inl (cs 5, aln 7 p, .inr (.inl fun i => rdL O 7 0 p i)) := by
  obtain ⟨p, rfl⟩ : ∃ p', p = p' + 1 := ⟨p - 1, by omega⟩
  exact cel_long ht
theorem wo_grow (hl : lawR lw' = lawR lw ++ [p0]) (hp : p0 ∉ lawR lw) : wo lw' (adu ad p0 q) cs (zer O p0) = wo lw ad cs O ++ [(q, cel (adu ad p0 q) cs (zer O p0) (7, 0, p0))] := by
  have hc : cellsL lw' = cellsL lw ++ [(7, 0, p0)] := by
    unfold cellsL
    rw [hl, List.map_append, List.append_assoc]
    rfl
  unfold wo
  rw [hc, List.map_append]
  refine congr (congrArg _ (List.map_congr_left fun x hx => ?_)) ?_
  · obtain ⟨c, n, p⟩ := x
    rcases cells_at hx with h | ⟨rfl, rfl, h⟩
    · have hc7 : c < 7 := (cells_c _ h).1
      refine congr (congrArg Prod.mk (adu_ne (by omega))) ?_
      rw [cel_adu h]
      exact cel_congr (zer_ne (by show ¬ (c = 7 ∧ _); omega))
    · have hne : p ≠ p0 := fun e => hp (e ▸ h)
      obtain ⟨h0, ht⟩ := law_aty h
      refine congr (congrArg Prod.mk (adu_ne (fun z => hne z.2.2))) ?_
      rcases ht with ht | ht
      · rw [cel_7 h0 ht, cel_7 h0 ht, zer_ne (fun z => hne z.2.2)]
      · rw [cel_7L h0 ht, cel_7L h0 ht]
        have e : ∀ i, rdL (zer O p0) 7 0 p i = rdL O 7 0 p i := fun i => rdL_ne (zer_ne (fun z => hne z.2.2))
        simp only [e]
  · show [(adu ad p0 q 7 0 p0, _)] = _
    rw [adu_eq]
theorem inj_of_D (h : va_D A (wo lw ad cs O)) : Inj_ lw ad A := by
  refine ⟨fun x hx y hy he => ?_, fun x hx => ?_⟩
  · obtain ⟨i, hi⟩ := List.getElem?_of_mem hx
    obtain ⟨j, hj⟩ := List.getElem?_of_mem hy
    have := h.1 i j _ _ (wo_get hi) (wo_get hj) he
    subst this
    rw [hi] at hj
    exact Option.some.inj hj
  · obtain ⟨i, hi⟩ := List.getElem?_of_mem hx
    exact h.2 i _ (wo_get hi)
theorem Inj_.less {lw1 : Nat} (h : Inj_ lw ad A) (hs : ∀ x ∈ cellsL lw1, x ∈ cellsL lw) : Inj_ lw1 ad A := ⟨fun x hx y hy e => h.1 x (hs x hx) y (hs y hy) e, fun x hx => h.2 x (hs x hx)⟩
end GROW
section NEWROW
variable {p : Program} {l : Launch} {e : Env} {R : Room} {s : State} {m : MethodId} {args : Array Value} {below : List Frame} {meth : Method} {c : Code} {cells slots : Nat} {Q : State → Prop}
variable {D : va_G} {ad : AD_} {cs : Nat → ClassId} {A : Nat → Prop} {O : Mem_} {lw lw' p0 : Nat} {cb : ByteArray} {pc : Nat} {H H0 : Heap} {locs : List Loc} {ls : Array Slot} {rest : List Value}
/-- a row of numbers of the law's comes to the world -/
theorem nw_row {N : Nat} (hN : N = aln 7 p0) (hx : p.tables.exec = Jvm.exec) (hb : c.code = cb) (hl : lawR lw' = lawR lw ++ [p0]) (hp : p0 ∉ lawR lw) (h0 : p0 ≠ 0) (ht : aty 7 p0 = 0) (hN1 : N ≤ 1000) (harr : (Cond.arrayClass .int).before args s = true) (hK : va_K D vwCl (tyL cs) s) (hP : va_P D vwCl (wo lw ad cs O) H) (hin : Inj_ lw ad A) (hS : va_S A H0 H locs) (hA : ∀ q, H0.size ≤ q → A q) (hcells : cells + 1 ≤ R.cells) (hslots : slots + N ≤ R.slots) (hdg : decode cb pc = .ok (.newarray .int, 2))
    (kk : ∀ (q : Nat) (H1 : Heap), va_P D vwCl (wo lw' (adu ad p0 q) cs (zer O p0)) H1 → Inj_ lw' (adu ad p0 q) A → va_S A H0 H1 locs → W p l e R s m args below meth c H1 locs (cells + 1) (slots + N) Q (F0 m (pc + 2) ls (.ref q :: rest))) :
    W p l e R s m args below meth c H locs cells slots Q (F0 m pc ls (.int (nI N) :: rest)) := by
  subst hN
  refine nw_arr (z := 0) hx hb (by decide) harr hK hP hin.D hS hA hN1 hcells hslots hdg (fun q H1 hP1 hD1 hS1 => ?_)
  have e : wo lw' (adu ad p0 q) cs (zer O p0) = wo lw ad cs O ++ [(q, .inl (cs 0, aln 7 p0, .inl fun _ => 0))] := by
    rw [wo_grow hl hp, cel_7 h0 ht, zer_eq]
  rw [← e] at hP1 hD1
  exact kk q H1 hP1 (inj_of_D hD1) hS1
theorem nw_rowL {N : Nat} (hN : N = aln 7 p0) (hx : p.tables.exec = Jvm.exec) (hb : c.code = cb) (hl : lawR lw' = lawR lw ++ [p0]) (hp : p0 ∉ lawR lw) (h0 : p0 ≠ 0) (ht : aty 7 p0 = 5) (hN1 : N ≤ 1000) (harr : (Cond.arrayClass .long).before args s = true) (hK : va_K D vwCl (tyL cs) s) (hP : va_P D vwCl (wo lw ad cs O) H) (hin : Inj_ lw ad A) (hS : va_S A H0 H locs) (hA : ∀ q, H0.size ≤ q → A q) (hcells : cells + 1 ≤ R.cells) (hslots : slots + N ≤ R.slots) (hdg : decode cb pc = .ok (.newarray .long, 2))
    (kk : ∀ (q : Nat) (H1 : Heap), va_P D vwCl (wo lw' (adu ad p0 q) cs (zer O p0)) H1 → Inj_ lw' (adu ad p0 q) A → va_S A H0 H1 locs → W p l e R s m args below meth c H1 locs (cells + 1) (slots + N) Q (F0 m (pc + 2) ls (.ref q :: rest))) :
    W p l e R s m args below meth c H locs cells slots Q (F0 m pc ls (.int (nI N) :: rest)) := by
  subst hN
  refine va_newa (atype := .long) (ty := .long) (N' := aln 7 p0) (a0 := (aln 7 p0, .inr (.inl fun _ => 0))) hx hb harr rfl hK hP hin.D hS hA (fun cA => rfl) (nI_pos (by omega)) (nI_clamp (by omega)) (by show aln 7 p0 * 8 ≤ 536870912; omega) hcells hslots hdg (fun q cA H1 hK1 hP1 hD1 hS1 => ?_)
  have h1 : s.vm.findClass ("[" ++ FieldType.long.toString) = some cA := (hK1.2 6 (cA, .long) rfl).2
  have h2 : s.vm.findClass ("[" ++ FieldType.long.toString) = some (cs 5) := (hK.2 5 (cs 5, .long) rfl).2
  obtain rfl : cA = cs 5 := Option.some.inj (h1.symm.trans h2)
  have z : ∀ i, rdL (zer O p0) 7 0 p0 i = 0 := fun i => by
    unfold rdL
    rw [zer_eq]
    show lgc 0 0 = 0
    decide
  have e : wo lw' (adu ad p0 q) cs (zer O p0) = wo lw ad cs O ++ [(q, .inl (cs 5, aln 7 p0, .inr (.inl fun _ => 0)))] := by
    rw [wo_grow hl hp, cel_7L h0 ht]
    simp only [z]
  rw [← e] at hP1 hD1
  exact kk q H1 hP1 (inj_of_D hD1) hS1
end NEWROW
