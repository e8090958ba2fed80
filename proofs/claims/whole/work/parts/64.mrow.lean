/-! THE MODEL'S SEARCH: nextRow, teaches, fewest. -/
section
/-- what the model's search leaves -/
def NR (O O' : Mem_) : Prop := Ro 7 0 O O' ∧ ∀ p q, ¬ (p = 28 ∧ 70 ≤ q ∧ q < 140) → p ≠ 31 → O' 7 0 p q = O 7 0 p q
theorem NR.rfl {O : Mem_} : NR O O := ⟨Ro.rfl, fun _ _ _ _ => Eq.refl _⟩
theorem NR.trans {O O' O2 : Mem_} (h : NR O O') (g : NR O' O2) : NR O O2 := ⟨h.1.trans g.1, fun p q a b => (g.2 p q a b).trans (h.2 p q a b)⟩
theorem NR.nx {O O' : Mem_} (h : NX 70 70 O O') : NR O O' := ⟨h.1, fun p q a _ => h.2 p q (fun z => a ⟨z.1, z.2.1, by omega⟩)⟩
theorem NR.up {j : Nat} {v : Int32} {O : Mem_} : NR O (up O 7 0 31 j v) := ⟨Ro.rfl.up, fun p q _ b => up_ne (fun e => b e.1)⟩
theorem gd_l {a b : List Nat} {j : Nat} (h : j < a.length) : (a ++ b).getD j 0 = a.getD j 0 := by
  rw [List.getD_eq_getElem?_getD, List.getD_eq_getElem?_getD, List.getElem?_append_left h]
theorem gd_r {a b : List Nat} {j : Nat} (h : a.length ≤ j) : (a ++ b).getD j 0 = b.getD (j - a.length) 0 := by
  rw [List.getD_eq_getElem?_getD, List.getD_eq_getElem?_getD, List.getElem?_append_right h]
theorem gd_p {m v j : Nat} (h : j < m) : (List.replicate m v).getD j 0 = v := by
  rw [List.getD_eq_getElem?_getD, List.getElem?_replicate, if_pos h]; rfl
/-- a part of a row lies there -/
def Rw (O : Mem_) (p : Nat) (l : List Nat) : Prop := ∀ j, j < l.length → O 7 0 31 (p + j) = nI (l.getD j 0)
theorem Rw.app {O : Mem_} {p : Nat} {a b : List Nat} : Rw O p (a ++ b) ↔ Rw O p a ∧ Rw O (p + a.length) b := by
  unfold Rw
  constructor
  · intro h
    refine ⟨fun j hj => ?_, fun j hj => ?_⟩
    · rw [h j (by rw [List.length_append]; omega), gd_l hj]
    · rw [Nat.add_assoc, h (a.length + j) (by rw [List.length_append]; omega), gd_r (by omega), Nat.add_sub_cancel_left]
  · rintro ⟨h1, h2⟩ j hj
    rw [List.length_append] at hj
    by_cases z : j < a.length
    · rw [h1 j z, gd_l z]
    · have := h2 (j - a.length) (by omega)
      rw [show p + a.length + (j - a.length) = p + j by omega] at this
      rw [this, gd_r (by omega)]
theorem Rw.cons {O : Mem_} {p x : Nat} {l : List Nat} : Rw O p (x :: l) ↔ O 7 0 31 p = nI x ∧ Rw O (p + 1) l := by
  rw [show x :: l = [x] ++ l from Eq.refl _, Rw.app]
  refine and_congr_left fun _ => ?_
  constructor
  · exact fun h => h 0 (by simp)
  · intro h j hj
    have : j = 0 := by simp at hj; exact hj
    subst this
    exact h
theorem Rw.rep {O : Mem_} {p m v : Nat} : Rw O p (List.replicate m v) ↔ ∀ j, j < m → O 7 0 31 (p + j) = nI v := by
  unfold Rw
  rw [List.length_replicate]
  refine forall_congr' fun j => forall_congr' fun hj => ?_
  rw [gd_p hj]
theorem Rw.of {O O' : Mem_} {p : Nat} {l : List Nat} (h : Rw O p l) (e : ∀ j, j < l.length → O' 7 0 31 (p + j) = O 7 0 31 (p + j)) : Rw O' p l := fun j hj => (e j hj).trans (h j hj)
theorem Rw.nx {O O' : Mem_} {p a b : Nat} {l : List Nat} (h : Rw O p l) (e : NX a b O O') : Rw O' p l := h.of fun j _ => e.2 31 (p + j) (by omega)
section
variable {T : Td_}
theorem MT.nr {O O' : Mem_} (h : NR O O') (g : MT (O 7 0) T) : MT (O' 7 0) T := g.of fun p q a b _ _ => h.2 p q (by omega) b
theorem NM.nr {O O' : Mem_} {M : Md_} {b : Nat} (hT : WT T) (h : NR O O') (hb : b = 0 ∨ b = 140) (g : NM (O 7 0) b T M) : NM (O' 7 0) b T M := by
  have h6k := hT.2.2.2.1
  obtain ⟨g1, S, N, g2⟩ := g
  refine ⟨fun k hk => ⟨fun s hs => ?_, ?_, ?_⟩, S, N, fun s hs => ?_⟩
  · rw [h.2 _ _ (by omega) (by decide), h.2 _ _ (by omega) (by decide)]; exact (g1 k hk).1 s hs
  · rw [h.2 _ _ (by omega) (by decide)]; exact (g1 k hk).2.1
  · rw [h.2 _ _ (by omega) (by decide)]; exact (g1 k hk).2.2
  · rw [h.2 _ _ (by omega) (by decide), h.2 _ _ (by omega) (by decide)]; exact g2 s hs
theorem aft_wf {s : Nat} : ∀ (l : List Nat) {M : Md_}, WMd T M → WMd T (aft T s l M)
  | [], _, h => h
  | t :: l, M, h => aft_wf l (see_wf (by decide) h)
theorem n_teaches (d : Nat) {O : Mem_} {K s n : Nat} {M : Md_} {row : List Nat} (hK : K < 2 ^ 31) (hs : s < nS T) (hn : n ≤ 5) (hr : row.length = n) (hrt : ∀ t, t ∈ row → t < nT T) (h : MT (O 7 0) T) (hT : WT T) (hm : NM (O 7 0) 140 T M) (hw : WMd T M) (hR : Rw O 0 row) :
    ∃ O', ex (d + 7) 181 0 [some (vr 7 0 0), some (vi (nI K)), some (vi (nI s)), some (vi (nI n))] [] O = some (bI (tch T K s (aft T s row M)), O') ∧ NX 70 70 O O' ∧ NM (O' 7 0) 70 T (aft T s row M) := by
  obtain ⟨O1, e1, x1, m1⟩ := n_copies (O := O) (T := T) (d + 5) (b := 70) (a := 140) (by decide) (by decide) (by decide) hT hm
  have loop : ∀ (l : List Nat) (i : Nat) (O : Mem_) (M : Md_), i + l.length = n → (∀ t, t ∈ l → t < nT T) → MT (O 7 0) T → NM (O 7 0) 70 T M → WMd T M → Rw O i l → ∃ O', ex (d + 7) 181 12 [some (vr 7 0 0), some (vi (nI K)), some (vi (nI s)), some (vi (nI n)), some (vi (nI i))] [] O = some (bI (tch T K s (aft T s l M)), O') ∧ NX 70 70 O O' ∧ NM (O' 7 0) 70 T (aft T s l M) := by
    intro l
    induction l with
    | nil =>
      intro i O M hi _ h hm hw _
      simp only [List.length_nil, Nat.add_zero] at hi
      subst hi
      refine ⟨O, (sX7_teaches_12 ..).trans ?_, NX.rfl, hm⟩
      rw [if_neg (nI_nlt (Nat.le_refl _) (by omega)), n_hasFled (d + 5) (by decide) hK h hT hm hw]
      simp only [Option.bind_some, aft, tch]
      cases anyFl T M K with
      | true => rw [if_neg (by decide)]; rfl
      | false =>
        rw [if_pos bI_f, n_isSameForAll (d + 3) (by decide) hK hs h hT hm hw]
        simp only [Option.bind_some]
        cases samA T M K s with
        | true => rw [if_neg (by decide)]; rfl
        | false => rw [if_pos bI_f]; rfl
    | cons t l ih =>
      intro i O M hi ht h hm hw hR
      rw [Rw.cons] at hR
      rw [List.length_cons] at hi
      have ht' := ht t List.mem_cons_self
      have h8 := hT.1
      obtain ⟨O1, e1, x1, m1⟩ := n_sees (T := T) (O := O) d (b := 70) (i := 0) (s := s) (t := t) (so := isTg T s t) (by decide) hs ht' h hT hm hw (by decide)
      obtain ⟨O2, e2, x2, m2⟩ := ih (i + 1) O1 (tsee T s t M) (by omega) (fun q hq => ht q (List.mem_cons_of_mem _ hq)) (MT.nx x1 h) m1 (see_wf (by decide) hw) (hR.2.nx x1)
      refine ⟨O2, (sX7_teaches_12 ..).trans ?_, x1.trans x2, m2⟩
      rw [if_pos (nI_lt (by omega) (by omega)), if_pos (ib_n (by omega) (by decide)), if_pos (ib_n (by omega) (by decide)), nI_clamp (by omega), hR.1, n_isTrue (d + 4) hs (by omega) h hT]
      simp only [Option.bind_some]
      rw [e1]
      simp only [Option.bind_some]
      rw [nI_add]
      exact e2
  obtain ⟨O2, e2, x2, m2⟩ := loop row 0 O1 M (by omega) hrt (MT.nx x1 h) m1 hw (hR.nx x1)
  refine ⟨O2, ?_, x1.trans x2, m2⟩
  rw [sX7_teaches_0, e1]
  exact e2
theorem nI_p (j : Nat) : nI (j + 1) - nI 1 = nI j := by rw [← nI_add]; exact Int32.add_sub_cancel _ _
/-- digits at their most are put to nought -/
theorem n_carry (d : Nat) (hT : WT T) : ∀ (m q : Nat) (O : Mem_), q + m ≤ 5 → MT (O 7 0) T → 0 < nT T → Rw O q (List.replicate m (nT T - 1)) → ∃ O', ex (d + 1) 180 4 [some (vr 7 0 0), none, some (vi (nI (q + m) - nI 1))] [] O = ex (d + 1) 180 4 [some (vr 7 0 0), none, some (vi (nI q - nI 1))] [] O' ∧ Ro 7 0 O O' ∧ (∀ p j, p ≠ 31 ∨ j < q ∨ q + m ≤ j → O' 7 0 p j = O 7 0 p j) ∧ Rw O' q (List.replicate m 0)
  | 0, q, O, _, _, _, _ => ⟨O, rfl, Ro.rfl, fun _ _ _ => rfl, by rw [Rw.rep]; intro j hj; omega⟩
  | m + 1, q, O, hq, h, h0, hR => by
    have h8 := hT.1
    rw [Rw.rep] at hR
    have g : NR O (up O 7 0 31 (q + m) (nI 0)) := NR.up
    obtain ⟨O', e, r, u, z⟩ := n_carry d hT m q (up O 7 0 31 (q + m) (nI 0)) (by omega) (MT.nr g h) h0 (by
      rw [Rw.rep]
      intro j hj
      rw [up_ne (by omega)]
      exact hR j (by omega))
    rw [Rw.rep] at z
    refine ⟨O', ?_, Ro.rfl.up.trans r, fun p j a => ?_, ?_⟩
    · rw [← e, show q + (m + 1) = q + m + 1 from rfl, nI_p]
      refine (sX7_nextRow_4 ..).trans ?_
      rw [if_neg (nI_nlt (Nat.zero_le _) (by omega)), if_pos (ib_n (by omega) (by decide)), nI_clamp (by omega), hR m (by omega), h.1.1]
      rw [if_pos (by rw [show nT T = nT T - 1 + 1 by omega, nI_p]; rfl), if_pos (ib_n (by omega) (by decide)), ← nI_m]
    · rw [u p j (by omega), up_ne (by omega)]
    · rw [Rw.rep]
      intro j hj
      by_cases w : j = m
      · rw [w, u 31 (q + m) (by omega), up_eq]
      · exact z j (by omega)
/-- a row that ends in digits at their most, with a lesser one before them -/
theorem n_next (d : Nat) (hT : WT T) {O : Mem_} {m q t n : Nat} (hn : n ≤ 5) (hq : q + 1 + m = n) (h : MT (O 7 0) T) (ht : t + 1 < nT T) (h1 : O 7 0 31 q = nI t) (hR : Rw O (q + 1) (List.replicate m (nT T - 1))) : ∃ O', ex (d + 1) 180 0 [some (vr 7 0 0), some (vi (nI n))] [] O = some (nI 1, O') ∧ NR O O' ∧ (∀ j, j < q → O' 7 0 31 j = O 7 0 31 j) ∧ O' 7 0 31 q = nI (t + 1) ∧ Rw O' (q + 1) (List.replicate m 0) := by
  have h8 := hT.1
  obtain ⟨O', e, r, u, z⟩ := n_carry d hT m (q + 1) O (by omega) h (by omega) hR
  have hnr : NR O O' := ⟨r, fun p j _ b => u p j (Or.inl b)⟩
  refine ⟨up O' 7 0 31 q (nI (t + 1)), ?_, hnr.trans NR.up, fun j hj => ?_, up_eq .., ?_⟩
  · rw [sX7_nextRow_0, ← hq, e, nI_p]
    refine (sX7_nextRow_4 ..).trans ?_
    rw [if_neg (nI_nlt (Nat.zero_le _) (by omega)), if_pos (ib_n (by omega) (by decide)), nI_clamp (by omega), u 31 q (by omega), h1, (MT.nr hnr h).1.1]
    rw [if_neg (by rw [show nT T = nT T - 1 + 1 by omega, nI_p, nI_eq (by omega) (by omega)]; omega)]
    refine (sX7_nextRow_36 ..).trans ?_
    rw [if_neg (nI_nlt (Nat.zero_le _) (by omega)), if_pos (ib_n (by omega) (by decide)), if_pos (ib_n (by omega) (by decide)), if_neg (nI_nlt (Nat.zero_le _) (by omega)), nI_clamp (by omega), u 31 q (by omega), h1, nI_add]
  · rw [up_ne (by omega), u 31 j (by omega)]
  · exact z.of fun j _ => up_ne (by omega)
/-- the last row -/
theorem n_last (d : Nat) (hT : WT T) {O : Mem_} {n : Nat} (hn : n ≤ 5) (h : MT (O 7 0) T) (h0 : 0 < nT T) (hR : Rw O 0 (List.replicate n (nT T - 1))) : ∃ O', ex (d + 1) 180 0 [some (vr 7 0 0), some (vi (nI n))] [] O = some (nI 0, O') ∧ NR O O' := by
  obtain ⟨O', e, r, u, z⟩ := n_carry d hT n 0 O (by omega) h h0 hR
  refine ⟨O', ?_, r, fun p j _ b => u p j (Or.inl b)⟩
  rw [sX7_nextRow_0]
  rw [Nat.zero_add] at e
  rw [e]
  refine (sX7_nextRow_4 ..).trans ?_
  rw [if_pos (by decide)]
  refine (sX7_nextRow_36 ..).trans ?_
  rw [if_pos (by decide), if_pos (by decide)]
/-- the rows of n showings -/
theorem n_rows (d : Nat) {K s n mo : Nat} {M0 : Md_} (hK : K < 2 ^ 31) (hs : s < nS T) (hn : n ≤ 5) (hT : WT T) (hw : WMd T M0) : ∀ (m : Nat) (ρ : List Nat) (O : Mem_), ρ.length + m = n → (0 < m → 0 < nT T) → (∀ t, t ∈ ρ → t < nT T) → MT (O 7 0) T → NM (O 7 0) 140 T M0 → Rw O 0 (ρ ++ List.replicate m 0) →
    (∀ r, dfs T K s m (aft T s ρ M0) = some r → ∃ O', ex (d + 8) 182 51 [some (vr 7 0 0), some (vi (nI K)), some (vi (nI s)), some (vi (nI mo)), some (vi (nI n)), some (vi (nI 1))] [] O = some (nI n, O') ∧ NR O O' ∧ Rw O' 0 (ρ ++ r) ∧ NM (O' 7 0) 70 T (aft T s (ρ ++ r) M0)) ∧
    (dfs T K s m (aft T s ρ M0) = none → ∃ O', ex (d + 8) 182 51 [some (vr 7 0 0), some (vi (nI K)), some (vi (nI s)), some (vi (nI mo)), some (vi (nI n)), some (vi (nI 1))] [] O = ((ex (d + 7) 180 0 [some (vr 7 0 0), some (vi (nI n))] [] O').bind fun r1 => ex (d + 8) 182 51 [some (vr 7 0 0), some (vi (nI K)), some (vi (nI s)), some (vi (nI mo)), some (vi (nI n)), some (vi r1.1)] [] r1.2) ∧ NR O O' ∧ Rw O' 0 (ρ ++ List.replicate m (nT T - 1))) := by
  intro m
  induction m with
  | zero =>
    intro ρ O hl _ hρ h hm hR
    rw [List.replicate_zero, List.append_nil] at hR
    obtain ⟨O1, e1, x1, m1⟩ := n_teaches (T := T) d (O := O) (K := K) (s := s) (n := n) (M := M0) (row := ρ) hK hs hn (by omega) hρ h hT hm hw hR
    have st : ex (d + 8) 182 51 [some (vr 7 0 0), some (vi (nI K)), some (vi (nI s)), some (vi (nI mo)), some (vi (nI n)), some (vi (nI 1))] [] O = if bI (tch T K s (aft T s ρ M0)) = nI 0 then ((ex (d + 7) 180 0 [some (vr 7 0 0), some (vi (nI n))] [] O1).bind fun r1 => ex (d + 8) 182 51 [some (vr 7 0 0), some (vi (nI K)), some (vi (nI s)), some (vi (nI mo)), some (vi (nI n)), some (vi r1.1)] [] r1.2) else some (nI n, O1) := by
      refine (sX7_fewest_51 ..).trans ?_
      rw [if_neg (by decide), e1]
      rfl
    have hd : dfs T K s 0 (aft T s ρ M0) = if tch T K s (aft T s ρ M0) = true then some [] else none := rfl
    rw [hd]
    cases hq : tch T K s (aft T s ρ M0) with
    | true =>
      rw [hq] at st
      refine ⟨fun r hr => ?_, fun hr => by cases hr⟩
      cases hr
      rw [List.append_nil]
      exact ⟨O1, st.trans (if_neg (show ¬ bI true = nI 0 by decide)), NR.nx x1, hR.nx x1, m1⟩
    | false =>
      rw [hq] at st
      refine ⟨fun r hr => (by cases hr), fun _ => ⟨O1, st.trans (if_pos bI_f), NR.nx x1, ?_⟩⟩
      rw [List.replicate_zero, List.append_nil]
      exact hR.nx x1
  | succ m ih =>
    intro ρ O hl h0 hρ h hm hR
    have h0 := h0 (Nat.succ_pos m)
    have h8 := hT.1
    have loop : ∀ r t O', t + (r + 1) = nT T → NR O O' → Rw O' 0 (ρ ++ t :: List.replicate m 0) →
        (∀ w, ((List.range' t (r + 1)).findSome? fun t => (dfs T K s m (tsee T s t (aft T s ρ M0))).map fun r => t :: r) = some w → ∃ O2, ex (d + 8) 182 51 [some (vr 7 0 0), some (vi (nI K)), some (vi (nI s)), some (vi (nI mo)), some (vi (nI n)), some (vi (nI 1))] [] O' = some (nI n, O2) ∧ NR O O2 ∧ Rw O2 0 (ρ ++ w) ∧ NM (O2 7 0) 70 T (aft T s (ρ ++ w) M0)) ∧
        (((List.range' t (r + 1)).findSome? fun t => (dfs T K s m (tsee T s t (aft T s ρ M0))).map fun r => t :: r) = none → ∃ O2, ex (d + 8) 182 51 [some (vr 7 0 0), some (vi (nI K)), some (vi (nI s)), some (vi (nI mo)), some (vi (nI n)), some (vi (nI 1))] [] O' = ((ex (d + 7) 180 0 [some (vr 7 0 0), some (vi (nI n))] [] O2).bind fun r1 => ex (d + 8) 182 51 [some (vr 7 0 0), some (vi (nI K)), some (vi (nI s)), some (vi (nI mo)), some (vi (nI n)), some (vi r1.1)] [] r1.2) ∧ NR O O2 ∧ Rw O2 0 (ρ ++ List.replicate (m + 1) (nT T - 1))) := by
      intro r
      induction r with
      | zero =>
        intro t O' ht hnr hR'
        have e1 : aft T s (ρ ++ [t]) M0 = tsee T s t (aft T s ρ M0) := aft_app ..
        obtain ⟨i1, i2⟩ := ih (ρ ++ [t]) O' (by rw [List.length_append, List.length_singleton]; omega) (fun _ => h0) (fun q hq => by
          rcases List.mem_append.mp hq with a | a
          · exact hρ q a
          · rw [List.mem_singleton.mp a]; omega) (MT.nr hnr h) (NM.nr hT hnr (Or.inr rfl) hm) (by rw [List.append_assoc]; exact hR')
        rw [e1] at i1 i2
        rw [List.range'_succ, List.findSome?_cons]
        cases hq : dfs T K s m (tsee T s t (aft T s ρ M0)) with
        | some w' =>
          refine ⟨fun w hw' => ?_, fun hw' => by cases hw'⟩
          have : t :: w' = w := Option.some.inj hw'
          subst this
          obtain ⟨O2, a1, a2, a3, a4⟩ := i1 w' hq
          rw [List.append_assoc] at a3 a4
          exact ⟨O2, a1, hnr.trans a2, a3, a4⟩
        | none =>
          refine ⟨fun w hw' => (by cases hw'), fun _ => ?_⟩
          obtain ⟨O2, a1, a2, a3⟩ := i2 hq
          rw [List.append_assoc] at a3
          refine ⟨O2, a1, hnr.trans a2, ?_⟩
          rw [List.replicate_succ]
          rwa [show nT T - 1 = t by omega] at a3 ⊢
      | succ r ihr =>
        intro t O' ht hnr hR'
        have e1 : aft T s (ρ ++ [t]) M0 = tsee T s t (aft T s ρ M0) := aft_app ..
        obtain ⟨i1, i2⟩ := ih (ρ ++ [t]) O' (by rw [List.length_append, List.length_singleton]; omega) (fun _ => h0) (fun q hq => by
          rcases List.mem_append.mp hq with a | a
          · exact hρ q a
          · rw [List.mem_singleton.mp a]; omega) (MT.nr hnr h) (NM.nr hT hnr (Or.inr rfl) hm) (by rw [List.append_assoc]; exact hR')
        rw [e1] at i1 i2
        rw [List.range'_succ, List.findSome?_cons]
        cases hq : dfs T K s m (tsee T s t (aft T s ρ M0)) with
        | some w' =>
          refine ⟨fun w hw' => ?_, fun hw' => by cases hw'⟩
          have : t :: w' = w := Option.some.inj hw'
          subst this
          obtain ⟨O2, a1, a2, a3, a4⟩ := i1 w' hq
          rw [List.append_assoc] at a3 a4
          exact ⟨O2, a1, hnr.trans a2, a3, a4⟩
        | none =>
          obtain ⟨O2, a1, a2, a3⟩ := i2 hq
          rw [List.append_assoc] at a3
          have a3' := Rw.app.mp a3
          have a3'' := Rw.cons.mp a3'.2
          rw [Nat.zero_add] at a3''
          have n02 := hnr.trans a2
          obtain ⟨O3, b1, b2, b3, b4, b5⟩ := n_next (T := T) (d + 6) hT (O := O2) (m := m) (q := ρ.length) (t := t) (n := n) hn (by omega) (MT.nr n02 h) (by omega) a3''.1 a3''.2
          have n03 := n02.trans b2
          rw [b1] at a1
          simp only [Option.bind_some] at a1
          have := ihr (t + 1) O3 (by omega) n03 (by
            rw [Rw.app, Rw.cons, Nat.zero_add]
            exact ⟨a3'.1.of fun j hj => b3 (0 + j) (by omega), b4, b5⟩)
          rw [← a1] at this
          exact this
    obtain ⟨r, hr⟩ : ∃ r, r + 1 = nT T := ⟨nT T - 1, by omega⟩
    have := loop r 0 O (by omega) NR.rfl hR
    rw [hr] at this
    rw [dfs_s, List.range_eq_range']
    exact this
theorem n_fewest (d : Nat) {O : Mem_} {K s most : Nat} {M0 : Md_} (hK : K < 2 ^ 31) (hs : s < nS T) (hmo : most ≤ 5) (hT : WT T) (hw : WMd T M0) (h : MT (O 7 0) T) (hm : NM (O 7 0) 140 T M0) :
    ∃ O', ex (d + 8) 182 0 [some (vr 7 0 0), some (vi (nI K)), some (vi (nI s)), some (vi (nI most))] [] O = some (oI ((fewest T K s most M0).map Prod.fst), O') ∧ NR O O' ∧ ∀ n row, fewest T K s most M0 = some (n, row) → Rw O' 0 row ∧ NM (O' 7 0) 70 T (aft T s row M0) := by
  have h8 := hT.1
  rw [sX7_fewest_0]
  have key : ∀ r n O2, n + r = most + 1 → NR O O2 → (∀ j, j < n → dfs T K s j M0 = none) →
      ∃ O', ex (d + 8) 182 3 [some (vr 7 0 0), some (vi (nI K)), some (vi (nI s)), some (vi (nI most)), some (vi (nI n))] [] O2 = some (oI ((fewest T K s most M0).map Prod.fst), O') ∧ NR O O' ∧ ∀ n row, fewest T K s most M0 = some (n, row) → Rw O' 0 row ∧ NM (O' 7 0) 70 T (aft T s row M0) := by
    intro r
    induction r with
    | zero =>
      intro n O2 hn hg hno
      rw [fewest_none fun j hj => hno j (by omega)]
      refine ⟨O2, (sX7_fewest_3 ..).trans ?_, hg, fun n row h => by cases h⟩
      rw [if_pos (nI_lt (by omega) (by omega))]
      rfl
    | succ r ih =>
      intro n O2 hn hg hno
      have hn' : n ≤ 5 := by omega
      -- five noughts
      obtain ⟨O3, e3, hz, hr3⟩ := lp_i (fun j (O : Mem_) => ex (d + 8) 182 12 [some (vr 7 0 0), some (vi (nI K)), some (vi (nI s)), some (vi (nI most)), some (vi (nI n)), some (vi (nI j))] [] O) (fun j O' => (∀ q, q < j → O' 7 0 31 q = nI 0) ∧ NR O O') 5 (fun j O' hj ⟨h1, h2⟩ => by
        refine ⟨up O' 7 0 31 j (nI 0), (sX7_fewest_12 ..).trans ?_, fun q hq => ?_, h2.trans NR.up⟩
        · rw [if_pos (nI_lt hj (by decide)), if_pos (ib_n hj (by decide)), nI_clamp (by omega), nI_add]
        · by_cases z : q = j
          · rw [z, up_eq]
          · rw [up_ne (by omega)]; exact h1 q (by omega)) O2 ⟨fun q hq => absurd hq (Nat.not_lt_zero q), hg⟩
      have h3 := MT.nr hr3 h
      have m3 := NM.nr hT hr3 (Or.inr rfl) hm
      have e4 : ex (d + 8) 182 12 [some (vr 7 0 0), some (vi (nI K)), some (vi (nI s)), some (vi (nI most)), some (vi (nI n)), some (vi (nI 5))] [] O3 = ex (d + 8) 182 51 [some (vr 7 0 0), some (vi (nI K)), some (vi (nI s)), some (vi (nI most)), some (vi (nI n)), some (vi (bI (decide (n = 0 ∨ 0 < nT T))))] [] O3 := by
        refine (sX7_fewest_12 ..).trans ?_
        rw [if_neg (nI_nlt (Nat.le_refl _) (by decide)), h3.1.1]
        by_cases z : n = 0
        · rw [if_pos (by rw [z]), decide_eq_true (Or.inl z)]; rfl
        · rw [if_neg (by rw [nI_eq (by omega) (by decide)]; exact z)]
          by_cases y : 0 < nT T
          · rw [if_pos (nI_lt y (by omega)), decide_eq_true (Or.inr y)]; rfl
          · rw [if_neg (nI_nlt (by omega) (by omega)), decide_eq_false (by omega)]; rfl
      have st : ex (d + 8) 182 3 [some (vr 7 0 0), some (vi (nI K)), some (vi (nI s)), some (vi (nI most)), some (vi (nI n))] [] O2 = ex (d + 8) 182 51 [some (vr 7 0 0), some (vi (nI K)), some (vi (nI s)), some (vi (nI most)), some (vi (nI n)), some (vi (bI (decide (n = 0 ∨ 0 < nT T))))] [] O3 := by
        refine (sX7_fewest_3 ..).trans ?_
        rw [if_neg (nI_nlt (show n ≤ most by omega) (by omega))]
        exact e3.trans e4
      have fin : ∀ O4, NR O O4 → dfs T K s n M0 = none → ex (d + 8) 182 3 [some (vr 7 0 0), some (vi (nI K)), some (vi (nI s)), some (vi (nI most)), some (vi (nI n))] [] O2 = ex (d + 8) 182 51 [some (vr 7 0 0), some (vi (nI K)), some (vi (nI s)), some (vi (nI most)), some (vi (nI n)), some (vi (nI 0))] [] O4 → ∃ O', ex (d + 8) 182 3 [some (vr 7 0 0), some (vi (nI K)), some (vi (nI s)), some (vi (nI most)), some (vi (nI n))] [] O2 = some (oI ((fewest T K s most M0).map Prod.fst), O') ∧ NR O O' ∧ ∀ n row, fewest T K s most M0 = some (n, row) → Rw O' 0 row ∧ NM (O' 7 0) 70 T (aft T s row M0) := fun O4 hg4 hq st4 => by
        obtain ⟨O', e', g', r'⟩ := ih (n + 1) O4 (by omega) hg4 (fun j hj => by
          by_cases z : j = n
          · rw [z]; exact hq
          · exact hno j (by omega))
        refine ⟨O', st4.trans ((sX7_fewest_51 ..).trans ?_), g', r'⟩
        rw [if_pos rfl, nI_add]
        exact e'
      by_cases hz0 : n = 0 ∨ 0 < nT T
      · rw [decide_eq_true hz0] at st
        obtain ⟨i1, i2⟩ := n_rows (T := T) d (K := K) (s := s) (n := n) (mo := most) (M0 := M0) hK hs hn' hT hw n [] O3 (by simp) (fun h => by omega) (fun t ht => by cases ht) h3 m3 (by
          rw [List.nil_append, Rw.rep]
          intro j hj
          exact hz (0 + j) (by omega))
        cases hq : dfs T K s n M0 with
        | some row =>
          rw [fewest_some (show n ≤ most by omega) hno hq]
          obtain ⟨O', a1, a2, a3, a4⟩ := i1 row hq
          refine ⟨O', st.trans a1, hr3.trans a2, fun n' row' h => ?_⟩
          cases h
          exact ⟨a3, a4⟩
        | none =>
          obtain ⟨O', a1, a2, a3⟩ := i2 hq
          have n04 := hr3.trans a2
          by_cases z : n = 0
          · subst z
            -- nextRow of an empty row
            have b1 : ex (d + 7) 180 0 [some (vr 7 0 0), some (vi (nI 0))] [] O' = some (nI 0, O') := by
              rw [sX7_nextRow_0]
              refine (sX7_nextRow_4 ..).trans ?_
              rw [if_pos (by decide)]
              refine (sX7_nextRow_36 ..).trans ?_
              rw [if_pos (by decide), if_pos (by decide)]
            rw [b1] at a1
            exact fin O' n04 hq (st.trans a1)
          · obtain ⟨O4, b1, b2⟩ := n_last (T := T) (d + 6) hT (O := O') (n := n) hn' (MT.nr n04 h) (by omega) a3
            rw [b1] at a1
            exact fin O4 (n04.trans b2) hq (st.trans a1)
      · rw [decide_eq_false hz0] at st
        refine fin O3 hr3 ?_ st
        obtain ⟨n', rfl⟩ : ∃ n', n = n' + 1 := ⟨n - 1, by omega⟩
        rw [dfs_s, show nT T = 0 by omega]
        rfl
  exact key (most + 1) 0 O (by omega) NR.rfl (fun j hj => by omega)
end
end
