/-! THE CLASS'S SEARCH, 3: findRow. -/
section
/-- the fewest showings -/
def fewest (T : Td_) (K s most : Nat) (M : Md_) : Option (Nat × List Nat) := (List.range (most + 1)).findSome? fun n => (dfs T K s n M).map fun r => (n, r)
/-- what findRow leaves -/
def Frr (O O' : Mem_) : Prop := (∀ c, c ≠ 0 → c ≠ 5 → O' c = O c) ∧ (∀ q, q ≤ 1 ∨ 8 ≤ q → O' 0 q = O 0 q) ∧ (∀ n, n ≠ 0 → O' 5 n = O 5 n) ∧ ∀ a b, a ≠ 1 → (a = 0 → b ≠ 1 ∧ b ≠ 7 ∧ b ≠ 8 ∧ b ≠ 9) → O' 5 0 a b = O 5 0 a b
theorem Frr.rfl {O : Mem_} : Frr O O := ⟨fun _ _ _ => Eq.refl _, fun _ _ => Eq.refl _, fun _ _ => Eq.refl _, fun _ _ _ _ => Eq.refl _⟩
theorem Frr.trans {O O' O2 : Mem_} (h : Frr O O') (g : Frr O' O2) : Frr O O2 := ⟨fun c a b => (g.1 c a b).trans (h.1 c a b), fun q a => (g.2.1 q a).trans (h.2.1 q a), fun n a => (g.2.2.1 n a).trans (h.2.2.1 n a), fun a b c e => (g.2.2.2 a b c e).trans (h.2.2.2 a b c e)⟩
theorem Frr.frm {p : Nat} {O O' : Mem_} (h : Frm p O O') : Frr O O' := ⟨h.1, fun q a => h.2.1 q (by omega), h.2.2.1, fun a b c _ => h.2.2.2 a b (Or.inl c)⟩
theorem Frr.up {j : Nat} {v : Int32} {O : Mem_} (hj : j = 1 ∨ j = 7 ∨ j = 8 ∨ j = 9) : Frr O (up O 5 0 0 j v) := ⟨fun c _ b => funext fun n => up_row (Or.inl b), fun q _ => up_row (Or.inl (by decide)), fun n a => up_row (Or.inr a), fun a b c e => up_ne (by
  by_cases z : a = 0
  · have := e z; omega
  · omega)⟩
theorem Frr.ro {i : Nat} {O O' : Mem_} (h : Ro 0 i O O') (hi : 1 < i ∧ i < 8) : Frr O O' := ⟨fun c a _ => funext fun n => h c n (Or.inl a), fun q a => h 0 q (Or.inr (by omega)), fun n _ => h 5 n (Or.inl (by decide)), fun a b _ _ => by rw [h 5 0 (Or.inl (by decide))]⟩
section
variable {T : Td_} {w K s : Nat}
theorem CT.frr {O O' : Mem_} (h : CT (O 4 w) T) (g : Frr O O') : CT (O' 4 w) T := by rw [g.1 4 (by decide) (by decide)]; exact h
theorem fewest_none {most : Nat} {M : Md_} (h : ∀ n, n ≤ most → dfs T K s n M = none) : fewest T K s most M = none := by
  unfold fewest
  rw [List.findSome?_eq_none_iff]
  intro n hn
  rw [h n (by have := List.mem_range.mp hn; omega)]
  rfl
theorem fewest_some {most n : Nat} {M : Md_} {row : List Nat} (hn : n ≤ most) (h : ∀ j, j < n → dfs T K s j M = none) (hr : dfs T K s n M = some row) : fewest T K s most M = some (n, row) := by
  unfold fewest
  rw [show most + 1 = n + (most - n + 1) by omega, List.range_add, List.findSome?_append]
  have : (List.range n).findSome? (fun n => (dfs T K s n M).map fun r => (n, r)) = none := by
    rw [List.findSome?_eq_none_iff]
    intro j hj
    rw [h j (List.mem_range.mp hj)]
    rfl
  rw [this, List.range_succ_eq_map, List.map_cons, List.findSome?_cons, Nat.add_zero, hr]
  rfl
theorem fewest_le {most n : Nat} {M : Md_} {row : List Nat} (h : fewest T K s most M = some (n, row)) : n ≤ most ∧ dfs T K s n M = some row := by
  unfold fewest at h
  obtain ⟨t, ht, h1⟩ := List.exists_of_findSome?_eq_some h
  obtain ⟨l, h2, h3⟩ := Option.map_eq_some_iff.mp h1
  cases h3
  exact ⟨by have := List.mem_range.mp ht; omega, h2⟩
theorem fewest_EqK {most : Nat} {M N : Md_} (h : EqK T K M N) : fewest T K s most M = fewest T K s most N := by
  unfold fewest
  exact findSome_ext fun n _ => by rw [dfs_EqK n h]
theorem m_findRow (d : Nat) {O : Mem_} {i most sn : Nat} {M : Md_} (hK : K < 2 ^ 31) (hs : s < nS T) (hT : CT (O 4 w) T) (wT : WT T) (hi : i ≤ 1 ∨ 8 ≤ i) (hmo : most ≤ 5) (hm : CM (O 0 i) T K sn M) (hw : WMd T M) (hsn : sn + 5 < 1000) :
    ∃ O', ex (d + 12) 60 0 [some (vr 5 0 0), some (vr 4 w 0), some (vr 0 i 0), some (vi (nI K)), some (vi (nI s)), some (vi (nI most))] [] O = some (bI (fewest T K s most M).isSome, O') ∧ Frr O O' ∧ ∀ n row, fewest T K s most M = some (n, row) → O' 5 0 0 1 = nI n ∧ (∀ j, j < n → O' 5 0 1 j = nI (row.getD j 0)) ∧ ∃ sn' M', sn' ≤ sn + n ∧ CM (O' 0 (2 + n)) T K sn' M' ∧ WMd T M' ∧ EqK T K M' (aft T s row M) := by
  obtain ⟨b, e, hb1, hb2⟩ := m_isHopeless (d + 7) hK hs hT wT hm hw
  rw [sX5_findRow_0, e]
  simp only [Option.bind_some]
  cases b with
  | true =>
    rw [if_neg (by decide), fewest_none fun n _ => dfs_hop n M (hb1 rfl)]
    exact ⟨O, rfl, Frr.rfl, fun n row h => by cases h⟩
  | false =>
    have hf := hb2 rfl
    have g1 : Frr O (up (up O 5 0 0 7 (nI K)) 5 0 0 8 (nI s)) := (Frr.up (by decide)).trans (Frr.up (by decide))
    obtain ⟨W, e1, hW, hWP⟩ := m_worth (d + 8) hK (hT.frr g1) wT
    rw [if_pos bI_f, e1]
    simp only [Option.bind_some]
    rw [if_pos (by decide)]
    have g2 : Frr O (up (up (up O 5 0 0 7 (nI K)) 5 0 0 8 (nI s)) 5 0 0 9 (nI W)) := g1.trans (Frr.up (by decide))
    obtain ⟨O1, e2, r2, m2⟩ := m_becomeM (O := up (up (up O 5 0 0 7 (nI K)) 5 0 0 8 (nI s)) 5 0 0 9 (nI W)) (i := 2) (j := i) (d + 10) (K := K) (sn := sn) (M := M) (by omega) wT (by rw [g2.2.1 _ hi]; exact hm)
    rw [show 2 + Int32.toNatClampNeg (nI 0) = 2 from rfl, e2]
    simp only [Option.bind_some]
    have g3 : Frr O O1 := g2.trans (Frr.ro r2 (by decide))
    have q7 : O1 5 0 0 7 = nI K := by rw [r2 5 0 (Or.inl (by decide)), up_ne (by decide), up_ne (by decide), up_eq]
    have q8 : O1 5 0 0 8 = nI s := by rw [r2 5 0 (Or.inl (by decide)), up_ne (by decide), up_eq]
    have q9 : O1 5 0 0 9 = nI W := by rw [r2 5 0 (Or.inl (by decide)), up_eq]
    have key : ∀ r n O2, n + r = most + 1 → Frr O O2 → O2 5 0 0 7 = nI K → O2 5 0 0 8 = nI s → O2 5 0 0 9 = nI W → CM (O2 0 2) T K sn M → (∀ j, j < n → dfs T K s j M = none) →
        ∃ O', ex (d + 12) 60 46 [some (vr 5 0 0), some (vr 4 w 0), none, none, none, some (vi (nI most)), some (vi (nI n))] [] O2 = some (bI (fewest T K s most M).isSome, O') ∧ Frr O O' ∧ ∀ n row, fewest T K s most M = some (n, row) → O' 5 0 0 1 = nI n ∧ (∀ j, j < n → O' 5 0 1 j = nI (row.getD j 0)) ∧ ∃ sn' M', sn' ≤ sn + n ∧ CM (O' 0 (2 + n)) T K sn' M' ∧ WMd T M' ∧ EqK T K M' (aft T s row M) := by
      intro r
      induction r with
      | zero =>
        intro n O2 hn hg _ _ _ _ hno
        rw [fewest_none fun j hj => hno j (by omega)]
        refine ⟨O2, (sX5_findRow_46 ..).trans ?_, hg, fun n row h => by cases h⟩
        rw [if_pos (nI_lt (by omega) (by omega))]
        rfl
      | succ r ih =>
        intro n O2 hn hg a7 a8 a9 hm2 hno
        have hn' : n ≤ 5 := by omega
        obtain ⟨O3, e3, f3, r3⟩ := m_reaches (T := T) (w := w) (K := K) (s := s) (n := n) (W := W) hn' hK hs hW hWP wT (d + (5 - n) + 1) n 0 sn (up O2 5 0 0 1 (nI n)) M (by omega) (by omega) (hT.frr (hg.trans (Frr.up (by decide)))) ⟨up_eq .., by rw [up_ne (by decide)]; exact a7, by rw [up_ne (by decide)]; exact a8, by rw [up_ne (by decide)]; exact a9⟩ (by rw [Nat.add_zero, up_row (Or.inl (by decide))]; exact hm2) hw hf hno
        rw [show d + (5 - n) + 1 + n + 5 = d + 11 by omega] at e3
        have g4 : Frr O O3 := (hg.trans (Frr.up (by decide))).trans (Frr.frm f3)
        have st : ex (d + 12) 60 46 [some (vr 5 0 0), some (vr 4 w 0), none, none, none, some (vi (nI most)), some (vi (nI n))] [] O2 = if bI (dfs T K s n M).isSome = nI 0 then ex (d + 12) 60 46 [some (vr 5 0 0), some (vr 4 w 0), none, none, none, some (vi (nI most)), some (vi (nI (n + 1)))] [] O3 else some (nI 1, O3) := by
          refine (sX5_findRow_46 ..).trans ?_
          rw [if_neg (nI_nlt (show n ≤ most by omega) (by omega)), if_neg (nI_nlt hn' (by decide)), e3]
          simp only [Option.bind_some]
          rw [nI_add]
        have st5 : ∀ j, j ≠ 1 → O3 5 0 0 j = O2 5 0 0 j := fun j hj => by rw [f3.2.2.2 0 j (Or.inl (by decide)), up_ne (by omega)]
        cases hq : dfs T K s n M with
        | none =>
          rw [hq] at st
          obtain ⟨O', e', g', r'⟩ := ih (n + 1) O3 (by omega) g4 (by rw [st5 _ (by decide)]; exact a7) (by rw [st5 _ (by decide)]; exact a8) (by rw [st5 _ (by decide)]; exact a9) (by rw [f3.2.1 2 (Or.inl (by omega)), up_row (Or.inl (by decide))]; exact hm2) (fun j hj => by
            by_cases z : j = n
            · rw [z]; exact hq
            · exact hno j (by omega))
          exact ⟨O', (st.trans (if_pos bI_f)).trans e', g', r'⟩
        | some row =>
          rw [hq] at st
          rw [fewest_some (show n ≤ most by omega) hno hq]
          refine ⟨O3, st.trans (if_neg (show ¬ bI true = nI 0 by decide)), g4, fun n' row' h => ?_⟩
          cases h
          obtain ⟨b1, sn', M', b2, b3, b4, b5⟩ := r3 row hq
          exact ⟨by rw [f3.2.2.2 0 1 (Or.inl (by decide)), up_eq], fun j hj => by have := b1 j hj; rwa [Nat.zero_add] at this, sn', M', b2, b3, b4, b5⟩
    exact key (most + 1) 0 O1 (by omega) g3 q7 q8 q9 m2 (fun j hj => by omega)
end
end
