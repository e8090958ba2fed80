/-! THE LAW'S OWN MINDS: what a kind learns. -/
section
/-- a kind's cells alone are changed -/
def U8 (k : Nat) (O O' : Mem_) : Prop := Fr8 O O' ∧ ∀ j, (j < 10 * k ∨ 10 * k + 10 ≤ j) → O' 7 0 8 j = O 7 0 8 j
theorem U8.rf {k : Nat} {O : Mem_} : U8 k O O := ⟨Fr8.rf, fun _ _ => rfl⟩
theorem U8.trans {k : Nat} {O O' O2 : Mem_} (h : U8 k O O') (g : U8 k O' O2) : U8 k O O2 := ⟨h.1.trans g.1, fun j z => (g.2 j z).trans (h.2 j z)⟩
theorem U8.u {k j : Nat} {O O' : Mem_} {v : Int32} (h : U8 k O O') (hj : 10 * k ≤ j ∧ j < 10 * k + 10) : U8 k O (up O' 7 0 8 j v) := ⟨h.1.u, fun i hi => (up_ne (by omega)).trans (h.2 i hi)⟩
theorem KS.ext {R : Nat → Nat → Int32} {k : Nat} {μ ν : Mi_} (h : KS R k μ) (h1 : ∀ q, q < 4 → μ.1 q = ν.1 q ∧ μ.2.1 q = ν.2.1 q) (h2 : μ.2.2.1 = ν.2.2.1) (h3 : μ.2.2.2 = ν.2.2.2) : KS R k ν := by
  obtain ⟨a, b, c⟩ := h
  refine ⟨fun s hs => ⟨?_, ?_⟩, by rw [b, h2], by rw [c, h3]⟩
  · rw [(a s hs).1, (h1 s hs).1]
  · rw [(a s hs).2, (h1 s hs).2]
theorem KS.row {O O' : Mem_} {k : Nat} {μ : Mi_} (h : KS (O 7 0) k μ) (e : ∀ j, 10 * k ≤ j → j < 10 * k + 10 → O' 7 0 8 j = O 7 0 8 j) : KS (O' 7 0) k μ := by
  obtain ⟨a, b, c⟩ := h
  refine ⟨fun s hs => ⟨?_, ?_⟩, ?_, ?_⟩
  · rw [e _ (by omega) (by omega)]; exact (a s hs).1
  · rw [e _ (by omega) (by omega)]; exact (a s hs).2
  · rw [e _ (by omega) (by omega)]; exact b
  · rw [e _ (by omega) (by omega)]; exact c
/-- what a mind holds beside -/
def IV (T : Td_) (μ : Mi_) : Prop := (∀ q, nS T ≤ q → μ.1 q = none) ∧ ∀ q, μ.1 q = none → μ.2.1 q = 0
variable {T : Td_} {O : Mem_} {k s t i f : Nat} {so : Bool} {μ : Mi_}
theorem oI_neg {j : Nat} (h : j < 2 ^ 31) : ¬ nI j < nI 0 := by rw [nI_ltI h (by decide)]; omega
theorem c382 (d : Nat) {o : Option Nat} (hk : k < 4) (hs : s < 4) (ho : ∀ m, o = some m → m < 2 ^ 31) (h : KS (O 7 0) k μ) : ∃ O', ex (d + 1) 132 382 [some (vr 7 0 8), none, none, none, none, none, some (vi (nI s)), none, none, none, some (vi (nI (10 * k))), none, none, some (vi (oI o))] [] O = some (nI 0, O') ∧ U8 k O O' ∧ KS (O' 7 0) k (upF μ.1 s o, μ.2.1, (o <|> μ.2.2.1), μ.2.2.2) := by
  obtain ⟨a, b, c⟩ := h
  have st := sL_learns_382 d O (nI s) (nI (10 * k)) (oI o)
  rw [nI_add, nI_add, if_pos (ib_n (by omega) (by decide)), if_pos (ib_n (by omega) (by decide)), nI_clamp (by omega), nI_clamp (by omega)] at st
  have kk : ∀ (v : Int32) (ν : Option Nat), v = oI ν → KS (up (up O 7 0 8 (10 * k + s) (oI o)) 7 0 8 (10 * k + 8) v 7 0) k (upF μ.1 s o, μ.2.1, ν, μ.2.2.2) := fun v ν e => by
    refine ⟨fun q hq => ⟨?_, ?_⟩, ?_, ?_⟩
    · show _ = oI (if q = s then o else μ.1 q)
      by_cases e : q = s
      · rw [if_pos e, e, up_ne (by omega), up_eq]
      · rw [if_neg e, up_ne (by omega), up_ne (by omega)]; exact (a q hq).1
    · rw [up_ne (by omega), up_ne (by omega)]; exact (a q hq).2
    · rw [up_eq, e]
    · rw [up_ne (by omega), up_ne (by omega)]; exact c
  cases o with
  | none =>
    rw [if_pos oI_lt0, if_pos (ib_n (by omega) (by decide))] at st
    exact ⟨_, st, (U8.rf.u ⟨by omega, by omega⟩).u ⟨by omega, by omega⟩, kk _ μ.2.2.1 (by rw [up_ne (by omega)]; exact b)⟩
  | some m =>
    rw [if_neg (show ¬ oI (some m) < nI 0 from oI_neg (ho m rfl)), if_pos (ib_n (by omega) (by decide))] at st
    exact ⟨_, st, (U8.rf.u ⟨by omega, by omega⟩).u ⟨by omega, by omega⟩, kk _ (some m) rfl⟩
/-- what is thought and how often it was wrong, out of what a proud one would think -/
def prd (T : Td_) (k s t : Nat) (so : Bool) (p : Option Nat) (μ : Mi_) : Option Nat × Nat :=
  if so_ T k = 3 then (if (μ.1 s).isNone || decide (2 ≤ (if (μ.1 s).isSome && !inO (μ.1 s) (fitg T t so) then μ.2.1 s + 1 else μ.2.1 s)) then (p, 0) else (μ.1 s, if (μ.1 s).isSome && !inO (μ.1 s) (fitg T t so) then μ.2.1 s + 1 else μ.2.1 s)) else (p, μ.2.1 s)
theorem c301 (d : Nat) {p : Option Nat} (hT : WT T) (hB : LB T) (la : LA T (O 7 0)) (hk : k < nK T) (hs : s < nS T) (ht : t < nT T) (hp : ∀ m, p = some m → m < nM T) (hw : WMi T μ) (hi : IV T μ) (h : KS (O 7 0) k μ) : ∃ O', ex (d + 1) 132 301 [some (vr 7 0 8), some (vr 7 0 2), some (vr 7 0 4), none, some (vi (nI k)), none, some (vi (nI s)), some (vi (nI t)), some (vi (bI so)), none, some (vi (nI (10 * k))), none, some (vi (oI (μ.1 s))), some (vi (oI p))] [] O = some (nI 0, O') ∧ U8 k O O' ∧ KS (O' 7 0) k (upF μ.1 s (prd T k s t so p μ).1, upF μ.2.1 s (prd T k s t so p μ).2, ((prd T k s t so p μ).1 <|> μ.2.2.1), μ.2.2.2) := by
  obtain ⟨b1, b2, b3, b4, b5, b6, b7, b8⟩ := hB
  obtain ⟨r0, r1, r2, r3, r4, r5⟩ := la.2.2.2.2 k hk
  have hso := (hT.2.2.2.2.2.2.2.1 k).1
  have hpb : ∀ m, p = some m → m < 2 ^ 31 := fun m e => by have := hp m e; omega
  have st := sL_learns_301 d O (nI k) (nI s) (nI t) (bI so) (nI (10 * k)) (oI (μ.1 s)) (oI p)
  rw [pk_mul, if_pos (ib_n (by omega) (by decide)), nI_clamp (by omega), r0] at st
  by_cases c3 : so_ T k = 3
  · rw [if_pos (by rw [c3])] at st
    cases e : μ.1 s with
    | none =>
      rw [e, if_pos oI_lt0] at st
      obtain ⟨O', e1, u1, k1⟩ := c382 d (o := p) (k := k) (s := s) (by omega) (by omega) hpb h
      refine ⟨O', st.trans e1, u1, k1.ext (fun q hq => ⟨?_, ?_⟩) ?_ rfl⟩
      · unfold prd; rw [if_pos c3, e]; rfl
      · unfold prd; rw [if_pos c3, e]
        show μ.2.1 q = if q = s then 0 else μ.2.1 q
        by_cases z : q = s
        · rw [if_pos z, z]; exact hi.2 s e
        · rw [if_neg z]
      · unfold prd; rw [if_pos c3, e]; rfl
    | some m =>
      have hm := hw.1 s m e
      have a1 := are_lt hT m
      have w1 := hw.2.1 s
      have hwr := (h.1 s (by omega)).2
      rw [e] at st
      have e0 : oI (some m) = nI m := rfl
      rw [e0, if_neg (oI_neg (by omega)), nI_add, nI_add, if_pos (ib_n (by omega) (by decide)), pk_mul, nI_add, if_pos (ib_n (by omega) (by decide)), nI_clamp (by omega), nI_clamp (by omega), (la.2.2.1 m hm).2.2, q_bitv _ _ (by omega) (by omega), hwr] at st
      have hfb : inO (some m) (fitg T t so) = ((are T m).testBit t == so) := fitg_bit hm ht
      -- what comes behind the count
      have fin : ∀ w : Nat, w < 3 → (w = if (μ.1 s).isSome && !inO (μ.1 s) (fitg T t so) then μ.2.1 s + 1 else μ.2.1 s) → ∀ y : Nat, nI (μ.2.1 s) + nI y = nI w → ex (d + 1) 132 301 [some (vr 7 0 8), some (vr 7 0 2), some (vr 7 0 4), none, some (vi (nI k)), none, some (vi (nI s)), some (vi (nI t)), some (vi (bI so)), none, some (vi (nI (10 * k))), none, some (vi (nI m)), some (vi (oI p))] [] O = ex (d + 1) 132 350 [some (vr 7 0 8), none, none, none, none, none, some (vi (nI s)), none, none, none, some (vi (nI (10 * k))), none, some (vi (nI m)), some (vi (oI p))] [vi (nI y), vi (nI (μ.2.1 s)), vi (nI (10 * k + 4 + s)), vr 7 0 8] O → ∃ O', ex (d + 1) 132 301 [some (vr 7 0 8), some (vr 7 0 2), some (vr 7 0 4), none, some (vi (nI k)), none, some (vi (nI s)), some (vi (nI t)), some (vi (bI so)), none, some (vi (nI (10 * k))), none, some (vi (nI m)), some (vi (oI p))] [] O = some (nI 0, O') ∧ U8 k O O' ∧ KS (O' 7 0) k (upF μ.1 s (prd T k s t so p μ).1, upF μ.2.1 s (prd T k s t so p μ).2, ((prd T k s t so p μ).1 <|> μ.2.2.1), μ.2.2.2) := fun w hw3 hwe y hy st => by
        have s2 := sL_learns_350 d O (nI s) (nI (10 * k)) (nI m) (oI p) (nI y) (nI (μ.2.1 s)) (nI (10 * k + 4 + s))
        rw [nI_add, nI_add, if_pos (ib_n (by omega) (by decide)), if_pos (ib_n (by omega) (by decide)), if_pos (ib_n (by omega) (by decide)), nI_clamp (by omega), hy, up_eq] at s2
        have kw : ∀ v : Nat, KS (up O 7 0 8 (10 * k + 4 + s) (nI v) 7 0) k (μ.1, upF μ.2.1 s v, μ.2.2.1, μ.2.2.2) := fun v => by
          refine ⟨fun q hq => ⟨?_, ?_⟩, ?_, ?_⟩
          · rw [up_ne (by omega)]; exact (h.1 q hq).1
          · show _ = nI (if q = s then v else μ.2.1 q)
            by_cases z : q = s
            · rw [if_pos z, z, up_eq]
            · rw [if_neg z, up_ne (by omega)]; exact (h.1 q hq).2
          · rw [up_ne (by omega)]; exact h.2.1
          · rw [up_ne (by omega)]; exact h.2.2
        by_cases c2 : w < 2
        · rw [if_pos (by rw [nI_ltI (by omega) (by omega)]; exact c2)] at s2
          obtain ⟨O', e1, u1, k1⟩ := c382 d (o := some m) (k := k) (s := s) (by omega) (by omega) (fun x hx => by cases hx; omega) (kw w)
          have hpr : prd T k s t so p μ = (some m, w) := by
            unfold prd
            rw [if_pos c3, ← hwe, e, if_neg]
            simp only [Option.isNone_some, Bool.false_or, decide_eq_true_eq]
            omega
          rw [hpr]
          exact ⟨O', st.trans (s2.trans e1), (U8.rf.u ⟨by omega, by omega⟩).trans u1, k1⟩
        · rw [if_neg (by rw [nI_ltI (by omega) (by omega)]; exact c2)] at s2
          obtain ⟨O', e1, u1, k1⟩ := c382 d (o := p) (k := k) (s := s) (by omega) (by omega) hpb ((kw 0).row (O' := up (up O 7 0 8 (10 * k + 4 + s) (nI w)) 7 0 8 (10 * k + 4 + s) (nI 0)) (fun j _ _ => by
            by_cases z : j = 10 * k + 4 + s
            · rw [z, up_eq, up_eq]
            · rw [up_ne (by omega), up_ne (by omega), up_ne (by omega)]))
          have hpr : prd T k s t so p μ = (p, 0) := by
            unfold prd
            rw [if_pos c3, ← hwe, if_pos]
            rw [decide_eq_true (by omega : 2 ≤ w), Bool.or_true]
          rw [hpr]
          exact ⟨O', st.trans (s2.trans e1), ((U8.rf.u ⟨by omega, by omega⟩).u ⟨by omega, by omega⟩).trans u1, k1⟩
      by_cases c4 : (are T m).testBit t = so
      · rw [if_pos (by rw [c4])] at st
        refine fin (μ.2.1 s) (by omega) ?_ 0 (by rw [nI_add]; rfl) st
        rw [e, hfb, c4]
        simp
      · rw [if_neg (by rw [bI_eq]; exact c4)] at st
        refine fin (μ.2.1 s + 1) (by omega) ?_ 1 (by rw [nI_add]) st
        rw [e, hfb, if_pos]
        simp [c4]
  · rw [if_neg (by rw [nI_eq (by omega) (by decide)]; exact c3)] at st
    obtain ⟨O', e1, u1, k1⟩ := c382 d (o := p) (k := k) (s := s) (by omega) (by omega) hpb h
    have hpr : prd T k s t so p μ = (p, μ.2.1 s) := by unfold prd; rw [if_neg c3]
    rw [hpr]
    refine ⟨O', st.trans e1, u1, k1.ext (fun q hq => ⟨rfl, ?_⟩) rfl rfl⟩
    show μ.2.1 q = if q = s then μ.2.1 s else μ.2.1 q
    by_cases z : q = s
    · rw [if_pos z, z]
    · rw [if_neg z]
/-- what a careful one would think -/
def crf (T : Td_) (k x : Nat) (p : Option Nat) : Option Nat := if so_ T k = 2 then (if p.any (fun m => dn x (alike T m) == 0) then p else none) else p
theorem dn_alike {x m : Nat} (hx : x < 2 ^ nM T) : dn x (alike T m) = 0 ↔ ∀ o, o < nM T → x.testBit o = true → are T o = are T m := by
  rw [dn_0]
  constructor
  · intro h o ho hb
    have : (alike T m &&& x).testBit o = true := by rw [h]; exact hb
    rw [Nat.testBit_and, Bool.and_eq_true] at this
    have h1 := this.1
    rw [alike, ms_bit, Bool.and_eq_true] at h1
    exact (beq_iff_eq.mp h1.2).symm
  · intro h
    apply Nat.eq_of_testBit_eq
    intro o
    rw [Nat.testBit_and]
    by_cases ho : o < nM T
    · cases hb : x.testBit o with
      | false => rw [Bool.and_false]
      | true =>
        rw [alike, ms_bit, decide_eq_true ho, h o ho hb]
        simp
    · rw [Nat.testBit_lt_two_pow (Nat.lt_of_lt_of_le hx (Nat.pow_le_pow_right (by decide) (by omega))), Bool.and_false]
theorem c225 (d : Nat) {x : Nat} {p : Option Nat} (hT : WT T) (hB : LB T) (la : LA T (O 7 0)) (hk : k < nK T) (hx : x < 2 ^ nM T) (hp : ∀ m, p = some m → m < nM T) (th : Int32) : ex (d + 1) 132 225 [some (vr 7 0 8), some (vr 7 0 2), some (vr 7 0 4), some (vr 7 0 5), some (vi (nI k)), none, some (vi (nI s)), some (vi (nI t)), some (vi (bI so)), none, some (vi (nI (10 * k))), some (vi (nI x)), some (vi th), some (vi (oI p))] [] O = ex (d + 1) 132 301 [some (vr 7 0 8), some (vr 7 0 2), some (vr 7 0 4), none, some (vi (nI k)), none, some (vi (nI s)), some (vi (nI t)), some (vi (bI so)), none, some (vi (nI (10 * k))), none, some (vi th), some (vi (oI (crf T k x p)))] [] O := by
  obtain ⟨b1, b2, b3, b4, b5, b6, b7, b8⟩ := hB
  obtain ⟨r0, r1, r2, r3, r4, r5⟩ := la.2.2.2.2 k hk
  have hso := (hT.2.2.2.2.2.2.2.1 k).1
  have i1 : (nI 1).toNatClampNeg = 1 := by decide
  have h6 : 2 ^ nM T ≤ 2 ^ 6 := Nat.pow_le_pow_right (by decide) b4
  refine (sL_learns_225 ..).trans ?_
  rw [pk_mul, if_pos (ib_n (by omega) (by decide)), nI_clamp (by omega), r0]
  by_cases c2 : so_ T k = 2
  · rw [if_pos (by rw [c2])]
    unfold crf
    rw [if_pos c2]
    cases p with
    | none =>
      refine (sL_learns_243 ..).trans ?_
      rw [if_pos (by decide), i1, la.1.2.1, if_pos (by rw [nI_ltI (by omega) (by omega)]; omega), if_pos oI_lt0]
      rfl
    | some m =>
      have hm := hp m rfl
      have e0 : oI (some m) = nI m := rfl
      have a1 := are_lt hT m
      obtain ⟨b, e, hb⟩ := lp_i (fun q (b : Bool) => ex (d + 1) 132 243 [some (vr 7 0 8), some (vr 7 0 2), some (vr 7 0 4), some (vr 7 0 5), some (vi (nI k)), none, some (vi (nI s)), some (vi (nI t)), some (vi (bI so)), none, some (vi (nI (10 * k))), some (vi (nI x)), some (vi th), some (vi (oI (if b = true then some m else none))), some (vi (nI m)), some (vi (nI q))] [] O) (fun q b => b = true ↔ ∀ o, o < q → x.testBit o = true → are T o = are T m) (nM T) (fun q b hq hb => by
        have aq := are_lt hT q
        obtain ⟨z, hz⟩ : ∃ z, oI (if b = true then some m else none) = z := ⟨_, rfl⟩
        have st := sL_learns_243 d O (nI k) (nI s) (nI t) (bI so) (nI (10 * k)) (nI x) th z (nI m) (nI q)
        rw [if_pos (by decide), i1, la.1.2.1, if_pos (by rw [nI_ltI (by omega) (by omega)]; exact hq), if_neg (oI_neg (by omega)), nI_add] at st
        by_cases cb : x.testBit q = true
        · rw [if_pos ((q_bit x q (by omega) (by omega)).mpr cb), pk_mul, pk_mul, nI_add, nI_add, if_pos (ib_n (by omega) (by decide)), if_pos (ib_n (by omega) (by decide)), nI_clamp (by omega), nI_clamp (by omega), (la.2.2.1 q hq).2.2, (la.2.2.1 m hm).2.2] at st
          by_cases ce : are T q = are T m
          · rw [if_pos (by rw [ce])] at st
            subst hz
            refine ⟨b, st, hb.trans ⟨fun h o ho hbo => ?_, fun h o ho hbo => h o (by omega) hbo⟩⟩
            by_cases z : o = q
            · rw [z]; exact ce
            · exact h o (by omega) hbo
          · rw [if_neg (by rw [nI_eq (by omega) (by omega)]; exact ce)] at st
            subst hz
            exact ⟨false, st, ⟨fun z => absurd z (by decide), fun h => absurd (h q (Nat.lt_succ_self q) cb) ce⟩⟩
        · rw [if_neg (fun z => cb ((q_bit x q (by omega) (by omega)).mp z))] at st
          subst hz
          refine ⟨b, st, hb.trans ⟨fun h o ho hbo => ?_, fun h o ho hbo => h o (by omega) hbo⟩⟩
          by_cases z : o = q
          · rw [z] at hbo; exact absurd hbo cb
          · exact h o (by omega) hbo) true ⟨fun _ o ho => absurd ho (Nat.not_lt_zero o), fun _ => rfl⟩
      refine e.trans ((sL_learns_243 ..).trans ?_)
      rw [if_pos (by decide), i1, la.1.2.1, if_neg (by rw [nI_ltI (by omega) (by omega)]; omega)]
      have eb : (Option.any (fun m => dn x (alike T m) == 0) (some m)) = b := by
        rw [Bool.eq_iff_iff, hb, ← dn_alike hx]
        exact beq_iff_eq
      rw [eb]
  · rw [if_neg (by rw [nI_eq (by omega) (by decide)]; exact c2)]
    unfold crf
    rw [if_neg c2]
theorem any_range {p : Nat → Bool} {a b : Nat} (h : a ≤ b) (hp : ∀ q, a ≤ q → p q = false) : (List.range b).any p = (List.range a).any p := by
  rw [Bool.eq_iff_iff, List.any_eq_true, List.any_eq_true]
  constructor
  · rintro ⟨q, h1, h2⟩
    refine ⟨q, List.mem_range.mpr ?_, h2⟩
    exact Nat.lt_of_not_le fun z => by rw [hp q z] at h2; cases h2
  · rintro ⟨q, h1, h2⟩
    exact ⟨q, List.mem_range.mpr (Nat.lt_of_lt_of_le (List.mem_range.mp h1) h), h2⟩
/-- what the last sort would think -/
def lsk (T : Td_) (k x : Nat) (p : Option Nat) (lt : Option Nat) : Option Nat := if so_ T k = 1 then (if inO lt x then lt else p) else p
theorem c94 (d : Nat) (hT : WT T) (hB : LB T) (la : LA T (O 7 0)) (hk : k < nK T) (hs : s < nS T) (hf : f < 2 ^ nM T) (hw : WMi T μ) (hi : IV T μ) (h : KS (O 7 0) k μ) : ex (d + 3) 132 94 [some (vr 7 0 8), some (vr 7 0 2), some (vr 7 0 4), some (vr 7 0 5), some (vi (nI k)), none, some (vi (nI s)), some (vi (nI t)), some (vi (bI so)), none, some (vi (nI (10 * k))), some (vi (nI (f &&& can T k))), some (vi (nI 0))] [] O = ex (d + 3) 132 225 [some (vr 7 0 8), some (vr 7 0 2), some (vr 7 0 4), some (vr 7 0 5), some (vi (nI k)), none, some (vi (nI s)), some (vi (nI t)), some (vi (bI so)), none, some (vi (nI (10 * k))), some (vi (nI (chs T f k s μ.1))), some (vi (oI (μ.1 s))), some (vi (oI (lsk T k (chs T f k s μ.1) (plainest T (chs T f k s μ.1)) μ.2.2.1)))] [] O := by
  obtain ⟨b1, b2, b3, b4, b5, b6, b7, b8⟩ := hB
  have hB : LB T := ⟨b1, b2, b3, b4, b5, b6, b7, b8⟩
  obtain ⟨r0, r1, r2, r3, r4, r5⟩ := la.2.2.2.2 k hk
  have hso := (hT.2.2.2.2.2.2.2.1 k).1
  have h12 : 2 ^ nM T ≤ 2 ^ 6 := Nat.pow_le_pow_right (by decide) b4
  have hfc : f &&& can T k < 4096 := Nat.lt_of_le_of_lt Nat.and_le_left (by omega)
  obtain ⟨x, e, hx, hb⟩ := lp_i (fun q (x : Nat) => ex (d + 3) 132 94 [some (vr 7 0 8), some (vr 7 0 2), some (vr 7 0 4), some (vr 7 0 5), some (vi (nI k)), none, some (vi (nI s)), some (vi (nI t)), some (vi (bI so)), none, some (vi (nI (10 * k))), some (vi (nI x)), some (vi (nI q))] [] O) (fun q x => x < 4096 ∧ ∀ m, m < 12 → x.testBit m = ((f.testBit m && (can T k).testBit m) && !(ul_ T k && (List.range q).any fun q => q != s && μ.1 q == some m))) 4 (fun q x hq hx => by
    obtain ⟨hx, hb⟩ := hx
    have st := sL_learns_94 (d + 2) O (nI k) (nI s) (nI t) (bI so) (nI (10 * k)) (nI x) (nI q)
    have hth := (h.1 q hq).1
    rw [if_pos (by rw [nI_ltI (by omega) (by omega)]; exact hq), pk_mul, nI_add, nI_add, nI_add, if_pos (ib_n (by omega) (by decide)), nI_clamp (by omega), r3, nI_clamp (by omega), hth, q_m1] at st
    cases hu : ul_ T k with
    | false =>
      rw [hu, if_neg (by decide)] at st
      refine ⟨x, st, hx, fun m hm => ?_⟩
      rw [hb m hm, hu, Bool.false_and, Bool.false_and]
    | true =>
      rw [hu, if_pos (show bI true = nI 1 from rfl)] at st
      by_cases cs : q = s
      · rw [if_pos (by rw [cs])] at st
        refine ⟨x, st, hx, fun m hm => ?_⟩
        rw [hb m hm, hu, List.range_succ, List.any_append, cs]
        simp
      · rw [if_neg (by rw [nI_eq (by omega) (by omega)]; exact cs), if_pos (ib_n (by omega) (by decide))] at st
        cases ht : μ.1 q with
        | none =>
          rw [ht, if_pos oI_lt0] at st
          refine ⟨x, st, hx, fun m hm => ?_⟩
          rw [hb m hm, hu, List.range_succ, List.any_append]
          simp [ht]
        | some y =>
          have hy := hw.1 q y ht
          have e0 : oI (some y) = nI y := rfl
          rw [ht, e0, if_neg (oI_neg (by omega)), if_pos (ib_n (by omega) (by decide)), q_shl y (by omega), q_dn] at st
          refine ⟨_, st, Nat.lt_of_le_of_lt (dn_le _ _) hx, fun m hm => ?_⟩
          rw [dn_bit, hb m hm, hu, List.range_succ, List.any_append]
          by_cases hxm : y = m
          · subst hxm; simp [ht, cs]
          · have hb2 : (y == m) = false := beq_false_of_ne hxm
            simp [ht, Nat.testBit_two_pow_of_ne hxm, hb2]) (f &&& can T k) ⟨hfc, fun m hm => by simp⟩
  have hxe : x = chs T f k s μ.1 := ms_eq (n := 12) hx (fun m hm => by
    rw [hb m hm, taken, any_range (a := nS T) (b := 4) (by omega) (fun q hq => by rw [hi.1 q hq]; simp)])
  rw [hxe] at e
  have hcl := chs_lt (k := k) (s := s) (th := μ.1) hT hf
  refine e.trans ((sL_learns_94 ..).trans ?_)
  rw [if_neg (by decide), nI_add, nI_add, if_pos (ib_n (by omega) (by decide)), l_plainest d hT hB la (by omega)]
  simp only [Option.bind_some]
  have hth := (h.1 s (by omega)).1
  rw [pk_mul, if_pos (ib_n (by omega) (by decide)), nI_clamp (by omega), r0, if_pos (ib_n (by omega) (by decide)), nI_clamp (by omega), h.2.1, nI_clamp (by omega), hth]
  unfold lsk
  by_cases c1 : so_ T k = 1
  · rw [if_pos (by rw [c1]), if_pos c1]
    cases hl : μ.2.2.1 with
    | none =>
      rw [if_pos oI_lt0]
      rfl
    | some y =>
      have hy := hw.2.2.1 y hl
      have e0 : oI (some y) = nI y := rfl
      rw [e0, if_neg (oI_neg (by omega)), if_pos (ib_n (by omega) (by decide))]
      by_cases cb : (chs T f k s μ.1).testBit y = true
      · rw [if_pos ((q_bit _ y (by omega) (by omega)).mpr cb), if_pos (ib_n (by omega) (by decide)), if_pos (show inO (some y) (chs T f k s μ.1) = true from cb)]
        rfl
      · rw [if_neg (fun z => cb ((q_bit _ y (by omega) (by omega)).mp z)), if_neg (show ¬ inO (some y) (chs T f k s μ.1) = true from cb)]
  · rw [if_neg (by rw [nI_eq (by omega) (by decide)]; exact c1), if_neg c1]
end
