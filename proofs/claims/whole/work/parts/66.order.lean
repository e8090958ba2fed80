/-! THE ORDER OF WORDS: what is asked; the class's search. -/
section
/-- what a way costs, and the minds behind it -/
def cst (T : Td_) (K : Nat) : List Nat → Md_ → Option (Nat × Md_)
  | [], M => some (0, M)
  | s :: l, M => (fewest T K s 3 M).bind fun p => (cst T K l (aft T s p.2 M)).map fun q => (p.1 + q.1, q.2)
abbrev Be_ : Type := Option (Nat × List Nat)
def bT (b : Be_) : Nat := match b with
  | none => 1000
  | some p => p.1
def updB (T : Td_) (K : Nat) (b : Be_) (way : List Nat) : Be_ := if way.Nodup then (match cst T K way (md0 T) with
  | some p => if p.1 < bT b then some (p.1, way) else b
  | none => b) else b
def fld (T : Td_) (K : Nat) : Nat → List Nat → Be_ → Be_
  | 0, ρ, b => updB T K b ρ
  | m + 1, ρ, b => (List.range (nS T)).foldl (fun b t => fld T K m (ρ ++ [t]) b) b
section
variable {T : Td_} {K : Nat}
theorem cst_app : ∀ (l r : List Nat) (M : Md_), cst T K (l ++ r) M = (cst T K l M).bind fun p => (cst T K r p.2).map fun q => (p.1 + q.1, q.2)
  | [], r, M => by
    show cst T K r M = (cst T K r M).map _
    cases cst T K r M with
    | none => rfl
    | some p => simp
  | s :: l, r, M => by
    show (fewest T K s 3 M).bind (fun p => (cst T K (l ++ r) (aft T s p.2 M)).map fun q => (p.1 + q.1, q.2)) = ((fewest T K s 3 M).bind (fun p => (cst T K l (aft T s p.2 M)).map fun q => (p.1 + q.1, q.2))).bind _
    cases fewest T K s 3 M with
    | none => rfl
    | some p =>
      simp only [Option.bind_some]
      rw [cst_app l r (aft T s p.2 M)]
      cases cst T K l (aft T s p.2 M) with
      | none => rfl
      | some q =>
        simp only [Option.bind_some, Option.map_some]
        cases cst T K r q.2 with
        | none => rfl
        | some z => simp [Nat.add_assoc]
theorem fld_skip : ∀ (m : Nat) (ρ : List Nat) (b : Be_), (∀ l, updB T K b (ρ ++ l) = b) → fld T K m ρ b = b
  | 0, ρ, b, h => by have := h []; rwa [List.append_nil] at this
  | m + 1, ρ, b, h => by
    unfold fld
    have : ∀ ts : List Nat, ts.foldl (fun b t => fld T K m (ρ ++ [t]) b) b = b := by
      intro ts
      induction ts with
      | nil => rfl
      | cons t ts ih =>
        rw [List.foldl_cons, fld_skip m (ρ ++ [t]) b fun l => by rw [List.append_assoc]; exact h _]
        exact ih
    exact this _
theorem upd_dup {b : Be_} {ρ : List Nat} {t : Nat} (h : t ∈ ρ) : ∀ l, updB T K b (ρ ++ [t] ++ l) = b := fun l => by
  unfold updB
  rw [if_neg]
  intro hn
  rw [List.append_assoc, List.nodup_append] at hn
  exact hn.2.2 t h t (List.mem_append_left _ List.mem_cons_self) rfl
theorem upd_never {b : Be_} {ρ : List Nat} (h : cst T K ρ (md0 T) = none) : ∀ l, updB T K b (ρ ++ l) = b := fun l => by
  unfold updB
  rw [cst_app, h]
  simp
theorem upd_dear {b : Be_} {ρ : List Nat} {p : Nat × Md_} (h : cst T K ρ (md0 T) = some p) (hp : bT b ≤ p.1) : ∀ l, updB T K b (ρ ++ l) = b := fun l => by
  unfold updB
  rw [cst_app, h]
  simp only [Option.bind_some]
  cases cst T K l p.2 with
  | none => simp
  | some q =>
    simp only [Option.map_some]
    rw [if_neg (show ¬ p.1 + q.1 < bT b by omega)]
    simp
theorem aft_EqK {s : Nat} : ∀ (l : List Nat) {M N : Md_}, EqK T K M N → EqK T K (aft T s l M) (aft T s l N)
  | [], _, _, h => h
  | _ :: l, _, _, h => aft_EqK l (see_EqK h)
/-- what the search for an order leaves -/
def Fro (p : Nat) (O O' : Mem_) : Prop := (∀ c, c ≠ 0 → c ≠ 5 → O' c = O c) ∧ (∀ q, q ≤ 1 ∨ (8 ≤ q ∧ q ≤ 8 + p) → O' 0 q = O 0 q) ∧ ∀ j, j < p → O' 5 0 5 j = O 5 0 5 j
theorem Fro.rfl {p : Nat} {O : Mem_} : Fro p O O := ⟨fun _ _ _ => Eq.refl _, fun _ _ => Eq.refl _, fun _ _ => Eq.refl _⟩
theorem Fro.trans {p : Nat} {O O' O2 : Mem_} (h : Fro p O O') (g : Fro p O' O2) : Fro p O O2 := ⟨fun c a b => (g.1 c a b).trans (h.1 c a b), fun q a => (g.2.1 q a).trans (h.2.1 q a), fun j a => (g.2.2 j a).trans (h.2.2 j a)⟩
theorem Fro.mono {p p' : Nat} {O O' : Mem_} (h : Fro p O O') (hp : p' ≤ p) : Fro p' O O' := ⟨h.1, fun q a => h.2.1 q (by omega), fun j a => h.2.2 j (by omega)⟩
theorem Fro.frr {p : Nat} {O O' : Mem_} (h : Frr O O') : Fro p O O' := ⟨h.1, fun q a => h.2.1 q (by omega), fun j _ => h.2.2.2 5 j (by decide) (by omega)⟩
theorem Fro.ro {p i : Nat} {O O' : Mem_} (h : Ro 0 i O O') (hi : 1 < i ∧ (i < 8 ∨ 8 + p < i)) : Fro p O O' := ⟨fun c a _ => funext fun n => h c n (Or.inl a), fun q a => h 0 q (Or.inr (by omega)), fun j _ => by rw [h 5 0 (Or.inl (by decide))]⟩
theorem Fro.up {p j : Nat} {v : Int32} {O : Mem_} (hj : p ≤ j) : Fro p O (up O 5 0 5 j v) := ⟨fun c _ b => funext fun n => up_row (Or.inl b), fun q _ => up_row (Or.inl (by decide)), fun i hi => up_ne (by omega)⟩
theorem CT.fro {p w : Nat} {O O' : Mem_} (h : CT (O 4 w) T) (g : Fro p O O') : CT (O' 4 w) T := by rw [g.1 4 (by decide) (by decide)]; exact h
/-- the best as yet -/
def BsC (O : Mem_) (T : Td_) (b : Be_) : Prop := O 5 0 0 3 = nI (bT b) ∧ bT b ≤ 1000 ∧ ∀ p, b = some p → p.1 < 1000 ∧ p.2.length = nS T ∧ (∀ t, t ∈ p.2 → t < nS T) ∧ ∀ j, j < nS T → O 5 0 3 j = nI (p.2.getD j 0)
theorem BsC.frr {O O' : Mem_} {b : Be_} (h : BsC O T b) (g : Frr O O') : BsC O' T b := ⟨(g.2.2.2 0 3 (by decide) (by decide)).trans h.1, h.2.1, fun p hp => ⟨(h.2.2 p hp).1, (h.2.2 p hp).2.1, (h.2.2 p hp).2.2.1, fun j hj => (g.2.2.2 3 j (by decide) (by omega)).trans ((h.2.2 p hp).2.2.2 j hj)⟩⟩
theorem BsC.ro {O O' : Mem_} {b : Be_} {i : Nat} (h : BsC O T b) (g : Ro 0 i O O') : BsC O' T b := by
  unfold BsC
  rw [g 5 0 (Or.inl (by decide))]
  exact h
theorem BsC.up {O : Mem_} {b : Be_} {j : Nat} {v : Int32} (h : BsC O T b) : BsC (up O 5 0 5 j v) T b := ⟨(up_ne (by omega)).trans h.1, h.2.1, fun p hp => ⟨(h.2.2 p hp).1, (h.2.2 p hp).2.1, (h.2.2 p hp).2.2.1, fun j hj => (up_ne (by omega)).trans ((h.2.2 p hp).2.2.2 j hj)⟩⟩
theorem m_tryOrders (hK : K < 2 ^ 31) (wT : WT T) {w : Nat} (d : Nat) : ∀ (m : Nat) (ρ : List Nat) (U total sn : Nat) (O : Mem_) (M M1 : Md_) (b : Be_), ρ.length + m = nS T → ρ.Nodup → (∀ t, t ∈ ρ → t < nS T) → U < 16 → (∀ t, t < nS T → U.testBit t = decide (t ∈ ρ)) → cst T K ρ (md0 T) = some (total, M1) → EqK T K M M1 → CT (O 4 w) T → CM (O 0 (8 + ρ.length)) T K sn M → WMd T M → sn ≤ 3 * ρ.length → total ≤ 3 * ρ.length → total < bT b → BsC O T b → (∀ j, j < ρ.length → O 5 0 5 j = nI (ρ.getD j 0)) →
    ∃ O', ex (d + m + 13) 66 0 [some (vr 5 0 0), some (vr 4 w 0), some (vi (nI K)), some (vi (nI ρ.length)), some (vi (nI U)), some (vi (nI total))] [] O = some (nI 0, O') ∧ Fro ρ.length O O' ∧ BsC O' T (fld T K m ρ b) := by
  intro m
  have h4 := wT.2.2.1
  induction m with
  | zero =>
    intro ρ U total sn O M M1 b hl hnd hρ _ _ hc _ hT _ _ _ hto hlt hb hpre
    have hl : ρ.length = nS T := by omega
    have hf : fld T K 0 ρ b = some (total, ρ) := by
      show updB T K b ρ = _
      unfold updB
      rw [if_pos hnd, hc]
      exact if_pos hlt
    rw [hf]
    refine ⟨cpy (up O 5 0 0 3 (nI total)) 5 0 5 5 0 3 0 0 4, ?_, ⟨fun c _ b => funext fun n => (cpy_row (Or.inl b)).trans (up_row (Or.inl b)), fun q _ => (cpy_row (Or.inl (by decide))).trans (up_row (Or.inl (by decide))), fun j _ => ?_⟩, ?_, ?_, fun p hp => ?_⟩
    · rw [sX5_tryOrders_0, hT.1.2.2.1, if_neg (nI_nlt (by omega) (by omega)), sX5_tryOrders_13]
    · rw [cpy_self, if_neg (by omega), up_ne (by omega)]
    · rw [cpy_self, if_neg (by omega), up_eq]; rfl
    · show total ≤ 1000; omega
    · cases hp
      refine ⟨by show total < 1000; omega, hl, hρ, fun j hj => ?_⟩
      rw [cpy_self, if_pos ⟨rfl, by omega⟩, up_ne (by omega)]
      exact hpre j (by omega)
  | succ m ih =>
    intro ρ U total sn O M M1 b hl hnd hρ hU hUb hc he hT hm hw hsn hto hlt hb hpre
    have hp4 : ρ.length < 4 := by omega
    have loop : ∀ r t O' b', t + r = nS T → Fro ρ.length O O' → BsC O' T b' → ∃ O2, ex (d + (m + 1) + 13) 66 37 [some (vr 5 0 0), some (vr 4 w 0), some (vi (nI K)), some (vi (nI ρ.length)), some (vi (nI U)), some (vi (nI total)), some (vi (nI t))] [] O' = some (nI 0, O2) ∧ Fro ρ.length O O2 ∧ BsC O2 T ((List.range' t r).foldl (fun b t => fld T K m (ρ ++ [t]) b) b') := by
      intro r
      induction r with
      | zero =>
        intro t O' b' ht hfr hb'
        refine ⟨O', (sX5_tryOrders_37 ..).trans ?_, hfr, hb'⟩
        rw [(hT.fro hfr).1.2.2.1, if_neg (nI_nlt (by omega) (by omega))]
      | succ r ihr =>
        intro t O' b' ht hfr hb'
        have ht' : t < nS T := by omega
        have hT' := hT.fro hfr
        rw [List.range'_succ, List.foldl_cons]
        have next : ∀ O2 b2, Fro ρ.length O O2 → BsC O2 T b2 → fld T K m (ρ ++ [t]) b' = b2 → ex (d + (m + 1) + 13) 66 37 [some (vr 5 0 0), some (vr 4 w 0), some (vi (nI K)), some (vi (nI ρ.length)), some (vi (nI U)), some (vi (nI total)), some (vi (nI t))] [] O' = ex (d + (m + 1) + 13) 66 37 [some (vr 5 0 0), some (vr 4 w 0), some (vi (nI K)), some (vi (nI ρ.length)), some (vi (nI U)), some (vi (nI total)), some (vi (nI (t + 1)))] [] O2 → ∃ O2, ex (d + (m + 1) + 13) 66 37 [some (vr 5 0 0), some (vr 4 w 0), some (vi (nI K)), some (vi (nI ρ.length)), some (vi (nI U)), some (vi (nI total)), some (vi (nI t))] [] O' = some (nI 0, O2) ∧ Fro ρ.length O O2 ∧ BsC O2 T ((List.range' (t + 1) r).foldl (fun b t => fld T K m (ρ ++ [t]) b) (fld T K m (ρ ++ [t]) b')) := fun O2 b2 hf2 hb2 hbe hstep => by
          obtain ⟨O3, e3, g3, r3⟩ := ihr (t + 1) O2 b2 (by omega) hf2 hb2
          exact ⟨O3, hstep.trans e3, g3, by rw [hbe]; exact r3⟩
        have hin := m_isIn (d + (m + 1) + 11) O' (i := t) (b := U) (by omega) (by omega)
        rw [hUb t ht'] at hin
        have st0 := sX5_tryOrders_37 (d + (m + 1) + 12) O' w (nI K) (nI ρ.length) (nI U) (nI total) (nI t)
        rw [hT'.1.2.2.1, if_pos (nI_lt ht' (by omega)), show d + (m + 1) + 12 = d + (m + 1) + 11 + 1 from rfl, hin] at st0
        simp only [Option.bind_some] at st0
        by_cases hmem : t ∈ ρ
        · rw [decide_eq_true hmem, if_neg (show ¬ bI true = nI 0 by decide), nI_add] at st0
          exact next O' b' hfr hb' (fld_skip m _ b' (upd_dup hmem)) st0
        · rw [decide_eq_false hmem, if_pos bI_f, if_pos (ib_n (by omega) (by decide)), nI_clamp (by omega)] at st0
          obtain ⟨O1, e1, g1, r1⟩ := m_findRow (T := T) (w := w) (K := K) (s := t) (O := O') (d + m + 1) (i := 8 + ρ.length) (most := 3) (sn := sn) (M := M) hK ht' hT' wT (by omega) (by decide) (by rw [hfr.2.1 _ (by omega)]; exact hm) hw (by omega)
          have f1 : Fro ρ.length O O1 := hfr.trans (Fro.frr g1)
          have b1 := hb'.frr g1
          have hD : d + (m + 1) + 11 + 1 = d + m + 1 + 12 := by omega
          rw [hD, e1] at st0
          simp only [Option.bind_some] at st0
          have hc1 : cst T K (ρ ++ [t]) (md0 T) = (fewest T K t 3 M).bind fun p => some (total + p.1, aft T t p.2 M1) := by
            rw [cst_app, hc]
            show ((fewest T K t 3 M1).bind fun p => some (p.1 + 0, aft T t p.2 M1)).map _ = _
            rw [fewest_EqK he]
            cases fewest T K t 3 M1 with
            | none => rfl
            | some p => rfl
          cases hq : fewest T K t 3 M with
          | none =>
            rw [hq] at st0 hc1
            rw [show bI (none : Option (Nat × List Nat)).isSome = nI 0 from rfl, if_pos rfl, nI_add] at st0
            exact next O1 b' f1 b1 (fld_skip m _ b' (upd_never hc1)) st0
          | some p =>
            rw [hq] at st0 hc1
            obtain ⟨a1, a2, sn', M', a3, a4, a5, a6⟩ := r1 p.1 p.2 hq
            have a7 := (fewest_le (n := p.1) (row := p.2) hq).1
            rw [show bI (some p).isSome = nI 1 from rfl, if_neg (by decide), a1, b1.1, nI_add, nI_add, nI_add] at st0
            have hbm := b1.2.1
            by_cases hlt2 : total + p.1 < bT b'
            · rw [if_pos (nI_lt hlt2 (by omega)), if_pos (ib_n (by omega) (by decide)), if_pos (ib_n (by omega) (by decide)), nI_clamp (show ρ.length + 1 < 2 ^ 31 by omega), nI_clamp (show p.1 < 2 ^ 31 by omega)] at st0
              obtain ⟨O2, e2, r2, m2⟩ := m_becomeM (O := O1) (i := 8 + (ρ.length + 1)) (j := 2 + p.1) (d + m + 12) (K := K) (sn := sn') (M := M') (by omega) wT a4
              rw [show d + m + 1 + 12 = d + m + 12 + 1 by omega, e2] at st0
              simp only [Option.bind_some] at st0
              rw [if_pos (ib_n hp4 (by decide)), q_shl t (by omega), q_or] at st0
              have f2 : Fro ρ.length O O2 := f1.trans (Fro.ro r2 (by omega))
              have f3 : Fro ρ.length O (up O2 5 0 5 ρ.length (nI t)) := f2.trans (Fro.up (Nat.le_refl _))
              have hlen : (ρ ++ [t]).length = ρ.length + 1 := by rw [List.length_append, List.length_singleton]
              have hp : (2:Nat) ^ t < 2 ^ 4 := Nat.pow_lt_pow_right (by decide) (by omega)
              obtain ⟨O3, e3, g3, r3⟩ := ih (ρ ++ [t]) (U ||| 2 ^ t) (total + p.1) sn' (up O2 5 0 5 ρ.length (nI t)) M' (aft T t p.2 M1) b' (by omega) (by
                rw [List.nodup_append]
                refine ⟨hnd, by simp, fun a ha b hb => ?_⟩
                rw [List.mem_singleton.mp hb]
                exact fun h => hmem (h ▸ ha)) (fun q hq => by
                rcases List.mem_append.mp hq with h | h
                · exact hρ q h
                · rw [List.mem_singleton.mp h]; exact ht') (Nat.or_lt_two_pow (n := 4) hU hp) (fun q hq => by
                rw [Nat.testBit_or, hUb q hq, Nat.testBit_two_pow, Bool.eq_iff_iff]
                simp only [Bool.or_eq_true, decide_eq_true_eq, List.mem_append, List.mem_singleton]
                exact or_congr_right ⟨fun h => h.symm, fun h => h.symm⟩) hc1 (a6.trans (aft_EqK _ he)) (hT.fro f3) (by
                rw [hlen, up_row (Or.inl (by decide))]; exact m2) a5 (by omega) (by omega) hlt2 ((b1.ro r2).up) (fun j hj => by
                rw [hlen] at hj
                by_cases z : j < ρ.length
                · rw [up_ne (by omega), f2.2.2 j z, hpre j z, gd_l z]
                · have : j = ρ.length := by omega
                  rw [this, up_eq, gd_r (Nat.le_refl _), Nat.sub_self]; rfl)
              rw [hlen, show d + m + 13 = d + m + 12 + 1 from rfl] at e3
              rw [e3] at st0
              exact next O3 _ (f3.trans (g3.mono (by omega))) r3 rfl st0
            · rw [if_neg (nI_nlt (by omega) (by omega))] at st0
              exact next O1 b' f1 b1 (fld_skip m _ b' (upd_dear hc1 (by show bT b' ≤ total + p.1; omega))) st0
    obtain ⟨O2, e2, g2, r2⟩ := loop (nS T) 0 O b (by omega) Fro.rfl hb
    refine ⟨O2, ?_, g2, ?_⟩
    · rw [sX5_tryOrders_0, hT.1.2.2.1, if_pos (nI_lt (by omega) (by omega)), if_pos (nI_lt hp4 (by decide)), e2]
    · show BsC O2 T ((List.range (nS T)).foldl (fun b t => fld T K m (ρ ++ [t]) b) b)
      rw [List.range_eq_range']
      exact r2
end
end
