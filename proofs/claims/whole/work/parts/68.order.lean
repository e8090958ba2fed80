/-! order. -/
section
variable {T : Td_} {K : Nat}
/-- the model's best as yet -/
def BsM (O : Mem_) (T : Td_) (b : Be_) : Prop := ∀ p, b = some p → p.1 < 1000 ∧ p.2.length = nS T ∧ (∀ t, t ∈ p.2 → t < nS T) ∧ ∀ j, j < nS T → O 7 0 33 j = nI (p.2.getD j 0)
theorem BsM.of {O O' : Mem_} {b : Be_} (h : BsM O T b) (e : ∀ j, j < nS T → O' 7 0 33 j = O 7 0 33 j) : BsM O' T b := fun p hp => ⟨(h p hp).1, (h p hp).2.1, (h p hp).2.2.1, fun j hj => (e j hj).trans ((h p hp).2.2.2 j hj)⟩
theorem n_keepWay (d : Nat) (hT : WT T) {x1 x2 x3 x4 : Int32} {v : Nat} {O : Mem_} (h : MT (O 7 0) T) : ∃ O', ex (d + 1) 187 166 [some (vr 7 0 0), some (vi x1), some (vi x2), some (vi x3), some (vi x4), some (vi (nI v)), none, none, some (vi (nI 0))] [] O = ex (d + 1) 187 67 [some (vr 7 0 0), some (vi x1), some (vi x2), some (vi x3), some (vi x4), some (vi (nI (v + 1)))] [] O' ∧ N2 O O' ∧ ∀ j, j < nS T → O' 7 0 33 j = O 7 0 32 j := by
  have h4 := hT.2.2.1
  obtain ⟨O', e, n, c, c2⟩ := lp_i (fun j (O : Mem_) => ex (d + 1) 187 166 [some (vr 7 0 0), some (vi x1), some (vi x2), some (vi x3), some (vi x4), some (vi (nI v)), none, none, some (vi (nI j))] [] O) (fun j O' => N2 O O' ∧ (∀ q, q < j → O' 7 0 33 q = O 7 0 32 q) ∧ ∀ q, O' 7 0 32 q = O 7 0 32 q) (nS T) (fun j O' hj ⟨n, c, c2⟩ => by
    refine ⟨up O' 7 0 33 j (O' 7 0 32 j), (sX7_order_166 ..).trans ?_, n.trans (N2.up (Or.inr rfl)), fun q hq => ?_, fun q => (up_ne (by omega)).trans (c2 q)⟩
    · rw [(MT.n2 n h).1.2.2.1, if_pos (nI_lt hj (by omega)), if_pos (ib_n (by omega) (by decide)), if_pos (ib_n (by omega) (by decide)), nI_clamp (by omega), nI_add]
    · by_cases z : q = j
      · rw [z, up_eq, c2]
      · rw [up_ne (by omega)]; exact c q (by omega)) O ⟨N2.rfl, fun q hq => absurd hq (Nat.not_lt_zero q), fun _ => rfl⟩
  refine ⟨O', e.trans ((sX7_order_166 ..).trans ?_), n, c⟩
  rw [(MT.n2 n h).1.2.2.1, if_neg (nI_nlt (Nat.le_refl _) (by omega)), nI_add]
theorem n_leaf (d : Nat) (hK : K < 2 ^ 31) (hT : WT T) {x2 : Int32} {ways : Nat} (ρ : List Nat) (b : Be_) (O : Mem_) (hl : ρ.length = nS T) (hρ : ∀ t, t ∈ ρ → t < nS T) (h : MT (O 7 0) T) (hb : BsM O T b) (hw : val (nS T) ρ < ways) (hw2 : ways < 2 ^ 31) : ∃ O', ex (d + 10) 187 67 [some (vr 7 0 0), some (vi (nI K)), some (vi x2), some (vi (nI ways)), some (vi (oI (b.map Prod.fst))), some (vi (nI (val (nS T) ρ)))] [] O = ex (d + 10) 187 67 [some (vr 7 0 0), some (vi (nI K)), some (vi x2), some (vi (nI ways)), some (vi (oI ((updB T K b ρ).map Prod.fst))), some (vi (nI (val (nS T) ρ + 1)))] [] O' ∧ N2 O O' ∧ BsM O' T (updB T K b ρ) := by
  have h4 := hT.2.2.1
  obtain ⟨O1, e1, l1, r1, s1⟩ := n_digits (T := T) (d + 9) hT (x1 := nI K) (x2 := x2) (x3 := nI ways) (x4 := oI (b.map Prod.fst)) (x5 := nI (val (nS T) ρ)) (nS T) ρ O hl (Nat.le_refl _) hρ h
  have n1 : N2 O O1 := ⟨r1, fun p q _ _ c _ => s1 p q (Or.inl c)⟩
  have h1 := MT.n2 n1 h
  have b1 : BsM O1 T b := hb.of fun j _ => s1 33 j (Or.inl (by decide))
  have st : ex (d + 10) 187 67 [some (vr 7 0 0), some (vi (nI K)), some (vi x2), some (vi (nI ways)), some (vi (oI (b.map Prod.fst))), some (vi (nI (val (nS T) ρ)))] [] O = if bI (decide ρ.Nodup) = nI 0 then ex (d + 10) 187 136 [some (vr 7 0 0), some (vi (nI K)), some (vi x2), some (vi (nI ways)), some (vi (oI (b.map Prod.fst))), some (vi (nI (val (nS T) ρ)))] [vi (oI none)] O1 else (ex (d + 9) 185 0 [some (vr 7 0 0), some (vi (nI K))] [] O1).bind fun r1 => ex (d + 10) 187 136 [some (vr 7 0 0), some (vi (nI K)), some (vi x2), some (vi (nI ways)), some (vi (oI (b.map Prod.fst))), some (vi (nI (val (nS T) ρ)))] [vi r1.1] r1.2 := by
    refine (sX7_order_67 ..).trans ?_
    rw [if_pos (nI_lt hw hw2), h.1.2.2.1]
    refine e1.trans ?_
    refine (sX7_order_85 ..).trans ?_
    rw [if_pos (by decide), n_areUnlike (d + 7) hT hl hρ h1 l1]
    rfl
  have skip : ∀ O2, N2 O O2 → BsM O2 T b → updB T K b ρ = b → ex (d + 10) 187 67 [some (vr 7 0 0), some (vi (nI K)), some (vi x2), some (vi (nI ways)), some (vi (oI (b.map Prod.fst))), some (vi (nI (val (nS T) ρ)))] [] O = ex (d + 10) 187 67 [some (vr 7 0 0), some (vi (nI K)), some (vi x2), some (vi (nI ways)), some (vi (oI (b.map Prod.fst))), some (vi (nI (val (nS T) ρ) + nI 1))] [] O2 → ∃ O', ex (d + 10) 187 67 [some (vr 7 0 0), some (vi (nI K)), some (vi x2), some (vi (nI ways)), some (vi (oI (b.map Prod.fst))), some (vi (nI (val (nS T) ρ)))] [] O = ex (d + 10) 187 67 [some (vr 7 0 0), some (vi (nI K)), some (vi x2), some (vi (nI ways)), some (vi (oI ((updB T K b ρ).map Prod.fst))), some (vi (nI (val (nS T) ρ + 1)))] [] O' ∧ N2 O O' ∧ BsM O' T (updB T K b ρ) := fun O2 hn hb2 hu hs => by
    rw [hu]
    rw [nI_add] at hs
    exact ⟨O2, hs, hn, hb2⟩
  by_cases hnd : ρ.Nodup
  · rw [decide_eq_true hnd, if_neg (show ¬ bI true = nI 0 by decide)] at st
    obtain ⟨O2, e2, x2'⟩ := n_taken (T := T) d hK hT hl hρ h1 l1
    rw [e2] at st
    simp only [Option.bind_some] at st
    have n2 := n1.trans (N2.no x2')
    have b2 : BsM O2 T b := b1.of fun j _ => x2'.2 33 j (by omega) (by decide)
    have h2 := MT.n2 n2 h
    cases hq : cst T K ρ (md0 T) with
    | none =>
      rw [hq] at st
      have hu : updB T K b ρ = b := by
        unfold updB
        rw [hq, if_pos hnd]
      exact skip O2 n2 b2 hu (st.trans ((sX7_order_136 ..).trans (if_pos rfl)))
    | some p =>
      rw [hq] at st
      have hp := cst_le ρ hq
      have hne : ¬ oI (Option.map Prod.fst (some p)) = oI none := oI_sn (show p.1 < 2 ^ 31 by omega)
      have hu : updB T K b ρ = if p.1 < bT b then some (p.1, ρ) else b := by
        unfold updB
        rw [hq, if_pos hnd]
      have s2 := sX7_order_136 (d + 9) O2 (nI K) x2 (nI ways) (oI (b.map Prod.fst)) (nI (val (nS T) ρ)) (oI (Option.map Prod.fst (some p)))
      rw [if_neg hne] at s2
      have take : p.1 < bT b → ex (d + 10) 187 67 [some (vr 7 0 0), some (vi (nI K)), some (vi x2), some (vi (nI ways)), some (vi (oI (b.map Prod.fst))), some (vi (nI (val (nS T) ρ)))] [] O = ex (d + 9 + 1) 187 166 [some (vr 7 0 0), some (vi (nI K)), some (vi x2), some (vi (nI ways)), some (vi (oI (Option.map Prod.fst (some p)))), some (vi (nI (val (nS T) ρ))), none, none, some (vi (nI 0))] [] O2 → ∃ O', ex (d + 10) 187 67 [some (vr 7 0 0), some (vi (nI K)), some (vi x2), some (vi (nI ways)), some (vi (oI (b.map Prod.fst))), some (vi (nI (val (nS T) ρ)))] [] O = ex (d + 10) 187 67 [some (vr 7 0 0), some (vi (nI K)), some (vi x2), some (vi (nI ways)), some (vi (oI ((updB T K b ρ).map Prod.fst))), some (vi (nI (val (nS T) ρ + 1)))] [] O' ∧ N2 O O' ∧ BsM O' T (updB T K b ρ) := fun hlt hs => by
        obtain ⟨O3, e3, n3, c3⟩ := n_keepWay (T := T) (d + 9) hT (x1 := nI K) (x2 := x2) (x3 := nI ways) (x4 := oI (Option.map Prod.fst (some p))) (v := val (nS T) ρ) h2
        rw [hu, if_pos hlt]
        refine ⟨O3, hs.trans e3, n2.trans n3, fun q hq => ?_⟩
        cases hq
        refine ⟨by show p.1 < 1000; omega, hl, hρ, fun j hj => ?_⟩
        rw [c3 j hj, x2'.2 32 j (by omega) (by decide)]
        have := l1 j (by omega)
        rwa [Nat.zero_add] at this
      cases b with
      | none =>
        rw [show oI (Option.map Prod.fst (none : Be_)) = oI none from rfl, if_pos rfl] at s2
        exact take (by show p.1 < 1000; omega) (st.trans s2)
      | some q =>
        have hq1 := (hb q rfl).1
        have hne2 : ¬ oI (Option.map Prod.fst (some q)) = oI none := oI_sn (show q.1 < 2 ^ 31 by omega)
        rw [if_neg hne2] at s2
        by_cases hlt : p.1 < q.1
        · have : oI (Option.map Prod.fst (some p)) < oI (Option.map Prod.fst (some q)) := nI_lt hlt (by omega)
          rw [if_pos this] at s2
          exact take hlt (st.trans s2)
        · have : ¬ oI (Option.map Prod.fst (some p)) < oI (Option.map Prod.fst (some q)) := nI_nlt (show q.1 ≤ p.1 by omega) (by omega)
          rw [if_neg this] at s2
          exact skip O2 n2 b2 (by rw [hu]; exact if_neg hlt) (st.trans s2)
  · rw [decide_eq_false hnd, if_pos bI_f] at st
    have hu : updB T K b ρ = b := by
      unfold updB
      rw [if_neg hnd]
    exact skip O1 n1 b1 hu (st.trans ((sX7_order_136 ..).trans (if_pos rfl)))
theorem n_fld (d : Nat) (hK : K < 2 ^ 31) (hT : WT T) {x2 : Int32} : ∀ (m : Nat) (ρ : List Nat) (b : Be_) (O : Mem_), ρ.length + m = nS T → (∀ t, t ∈ ρ → t < nS T) → MT (O 7 0) T → BsM O T b → ∃ O', ex (d + 10) 187 67 [some (vr 7 0 0), some (vi (nI K)), some (vi x2), some (vi (nI (nS T ^ nS T))), some (vi (oI (b.map Prod.fst))), some (vi (nI (val (nS T) ρ * nS T ^ m)))] [] O = ex (d + 10) 187 67 [some (vr 7 0 0), some (vi (nI K)), some (vi x2), some (vi (nI (nS T ^ nS T))), some (vi (oI ((fld T K m ρ b).map Prod.fst))), some (vi (nI ((val (nS T) ρ + 1) * nS T ^ m)))] [] O' ∧ N2 O O' ∧ BsM O' T (fld T K m ρ b) := by
  have h4 := hT.2.2.1
  have hways : nS T ^ nS T ≤ 4 ^ 4 := Nat.le_trans (Nat.pow_le_pow_left h4 _) (Nat.pow_le_pow_right (by decide) h4)
  intro m
  induction m with
  | zero =>
    intro ρ b O hl hρ h hb
    have hv := val_lt (nS T) ρ (by omega) hρ
    rw [Nat.pow_zero, Nat.mul_one, Nat.mul_one]
    exact n_leaf d hK hT ρ b O (by omega) hρ h hb hv (by omega)
  | succ m ih =>
    intro ρ b O hl hρ h hb
    have loop : ∀ r t O' b', t + r = nS T → N2 O O' → BsM O' T b' → ∃ O2, ex (d + 10) 187 67 [some (vr 7 0 0), some (vi (nI K)), some (vi x2), some (vi (nI (nS T ^ nS T))), some (vi (oI (b'.map Prod.fst))), some (vi (nI ((val (nS T) ρ * nS T + t) * nS T ^ m)))] [] O' = ex (d + 10) 187 67 [some (vr 7 0 0), some (vi (nI K)), some (vi x2), some (vi (nI (nS T ^ nS T))), some (vi (oI (((List.range' t r).foldl (fun b t => fld T K m (ρ ++ [t]) b) b').map Prod.fst))), some (vi (nI ((val (nS T) ρ * nS T + nS T) * nS T ^ m)))] [] O2 ∧ N2 O O2 ∧ BsM O2 T ((List.range' t r).foldl (fun b t => fld T K m (ρ ++ [t]) b) b') := by
      intro r
      induction r with
      | zero =>
        intro t O' b' ht hn hb'
        exact ⟨O', by rw [show t = nS T by omega]; rfl, hn, hb'⟩
      | succ r ihr =>
        intro t O' b' ht hn hb'
        obtain ⟨O1, e1, n1, b1⟩ := ih (ρ ++ [t]) b' O' (by rw [List.length_append, List.length_singleton]; omega) (fun q hq => by
          rcases List.mem_append.mp hq with a | a
          · exact hρ q a
          · rw [List.mem_singleton.mp a]; omega) (MT.n2 hn h) hb'
        rw [val_app] at e1
        obtain ⟨O2, e2, n2, b2⟩ := ihr (t + 1) O1 _ (by omega) (hn.trans n1) b1
        rw [List.range'_succ, List.foldl_cons]
        exact ⟨O2, e1.trans e2, n2, b2⟩
    obtain ⟨O2, e2, n2, b2⟩ := loop (nS T) 0 O b (by omega) N2.rfl hb
    have a1 : (val (nS T) ρ * nS T + 0) * nS T ^ m = val (nS T) ρ * nS T ^ (m + 1) := by rw [Nat.add_zero, Nat.pow_succ, Nat.mul_assoc, Nat.mul_comm (nS T)]
    have a2 : (val (nS T) ρ * nS T + nS T) * nS T ^ m = (val (nS T) ρ + 1) * nS T ^ (m + 1) := by rw [← Nat.succ_mul, Nat.pow_succ, Nat.mul_assoc, Nat.mul_comm (nS T)]
    have a3 : fld T K (m + 1) ρ b = (List.range' 0 (nS T)).foldl (fun b t => fld T K m (ρ ++ [t]) b) b := by
      show (List.range (nS T)).foldl (fun b t => fld T K m (ρ ++ [t]) b) b = _
      rw [List.range_eq_range']
    rw [a1, a2] at e2
    rw [a3]
    exact ⟨O2, e2, n2, b2⟩
/-- what order answers -/
def orA (b : Be_) (i : Nat) : Int32 := match b with
  | some p => nI (p.2.getD i 0)
  | none => oI none
theorem n_order (d : Nat) (hK : K < 2 ^ 31) (hT : WT T) {x2 : Int32} {O : Mem_} (h : MT (O 7 0) T) : ∃ O', ex (d + 10) 187 38 [some (vr 7 0 0), some (vi (nI K)), some (vi x2), some (vi (nI 1)), some (vi (nI 0))] [] O = ex (d + 10) 187 67 [some (vr 7 0 0), some (vi (nI K)), some (vi x2), some (vi (nI (nS T ^ nS T))), some (vi (oI ((fld T K (nS T) [] none).map Prod.fst))), some (vi (nI (nS T ^ nS T)))] [] O' ∧ N2 O O' ∧ BsM O' T (fld T K (nS T) [] none) := by
  have h4 := hT.2.2.1
  have e1 := lp_n (fun k (a : Nat) => ex (d + 10) 187 38 [some (vr 7 0 0), some (vi (nI K)), some (vi x2), some (vi (nI a)), some (vi (nI k))] [] O) (fun _ a => a * nS T) (nS T) (fun k a hk => by
    refine (sX7_order_38 ..).trans ?_
    rw [h.1.2.2.1, if_pos (nI_lt hk (by omega)), pk_mul, nI_add]) 1
  have ep : ∀ n, itn (fun _ a => a * nS T) n 1 = nS T ^ n := by
    intro n
    induction n with
    | zero => rfl
    | succ n ih => show itn _ n 1 * nS T = _; rw [ih, Nat.pow_succ]
  rw [ep] at e1
  obtain ⟨O', e2, n2, b2⟩ := n_fld (T := T) d hK hT (x2 := x2) (nS T) [] none O (by simp) (fun t ht => by cases ht) h (fun p hp => by cases hp)
  have v0 : val (nS T) [] = 0 := rfl
  rw [v0, Nat.zero_mul, Nat.zero_add, Nat.one_mul] at e2
  refine ⟨O', e1.trans (Eq.trans ?_ e2), n2, b2⟩
  refine (sX7_order_38 ..).trans ?_
  rw [h.1.2.2.1, if_neg (nI_nlt (Nat.le_refl _) (by omega))]
  rfl
end
theorem q_order (x z : Int32) : Cal 88 187 [some (vi x), some (vi z)] := Cal.of fun O A hw hc hm => by
  have hc' := hc
  have hm' := hm
  obtain ⟨w, cw, c9, hT, hS, hI, hB, hM, hP, hF, hSh⟩ := hc
  have hsel := cw.sel
  obtain ⟨mT, mSc, mIm, mN, mP, mF, mSh, mt⟩ := hm
  have hw' := hw
  obtain ⟨wT, wS, wI, wP, wF, wSh, wt⟩ := hw
  have h8 := wT.1
  have h12 := wT.2.1
  have h4 := wT.2.2.1
  have h6 := wT.2.2.2.1
  have wMd : WMd A.1 (mds A.1 A.2.1.2.1 A.2.1.1) := mds_wf _ (by have := wS.1; omega)
  have kmC : ∀ k, k < nK A.1 → KM (O 0 0) k ((mds A.1 A.2.1.2.1 A.2.1.1).2 k) := fun k hk => hM.2.2 k hk (by rw [Nat.testBit_two_pow_sub_one, decide_eq_true hk])
  have kmN : ∀ k, k < nK A.1 → KN (O 7 0) (10 * k) ((mds A.1 A.2.1.2.1 A.2.1.1).2 k) := fun k hk => by have := mN.1 k hk; rwa [Nat.zero_add] at this
  have h64 : 2 ^ nK A.1 ≤ 2 ^ 6 := Nat.pow_le_pow_right (by decide) h6
  by_cases hx : hsI x (2 ^ nK A.1) = true
  · have hx' := hx
    obtain ⟨K, hK, rfl⟩ := hsI_of (by omega) hx
    -- the class's search
    obtain ⟨O0, e0, r0, m0⟩ := m_blank (O := up O 5 0 0 3 (nI 1000)) (n := w) (i := 8) (T := A.1) 36 (by rw [up_row (Or.inl (by decide))]; exact hT) wT
    have hT0 : CT (O0 4 w) A.1 := by rw [r0 4 w (Or.inl (by decide)), up_row (Or.inl (by decide))]; exact hT
    obtain ⟨O1, e1, f1, b1⟩ := m_tryOrders (T := A.1) (K := K) (by omega) wT (w := w) (26 - nS A.1) (nS A.1) [] 0 0 0 O0 (md0 A.1) (md0 A.1) none (by simp) List.nodup_nil (fun t ht => by cases ht) (by decide) (fun t _ => by simp) rfl EqK.rfl hT0 (m0 K) md0_wf (by decide) (by decide) (by decide) ⟨by rw [r0 5 0 (Or.inl (by decide)), up_eq]; rfl, by decide, fun p hp => by cases hp⟩ (fun j hj => absurd hj (Nat.not_lt_zero j))
    rw [show 26 - nS A.1 + nS A.1 + 13 = 39 by omega] at e1
    have rc : ∀ c, c ≠ 0 → c ≠ 5 → O1 c = O c := fun c a b => by
      rw [f1.1 c a b]
      funext n
      rw [r0 c n (Or.inl a), up_row (Or.inl b)]
    have r00 : O1 0 0 = O 0 0 := by rw [f1.2.1 0 (Or.inl (by decide)), r0 0 0 (Or.inr (by decide)), up_row (Or.inl (by decide))]
    have hm1 : MI (O1 7 0) A := by rw [rc 7 (by decide) (by decide)]; exact hm'
    have cci : CI O1 A := hc'.of r00 (rc 1 (by decide) (by decide)) (rc 2 (by decide) (by decide)) (rc 3 (by decide) (by decide)) (rc 4 (by decide) (by decide)) (rc 6 (by decide) (by decide))
    obtain ⟨O2, e2, n2, b2⟩ := n_order (T := A.1) (K := K) (x2 := z) (O := O1) 30 (by omega) wT hm1.1
    have hm2 : MI (O2 7 0) A := MI.of (O := O1) hw' hm1 n2.2
    have hcl : ∀ c, c ≠ 7 → O2 c = O1 c := fun c z => funext fun n => n2.1 c n (Or.inl z)
    have hways : nS A.1 ^ nS A.1 ≤ 4 ^ 4 := Nat.le_trans (Nat.pow_le_pow_left h4 _) (Nat.pow_le_pow_right (by decide) h4)
    have cst : ∀ v, ex 40 88 41 [some (vr 6 0 0), some (vi (nI K)), some (vi z), some (vi v)] [] O = if (fld A.1 K (nS A.1) [] none).isSome = false then some (oI none, O1) else if z = nI 0 then some (O1 5 0 0 3, O1) else if ib v 4 = true then some (O1 5 0 3 (Int32.toNatClampNeg v), O1) else none := fun v => by
      refine (sX6_order_41 39 ..).trans ?_
      have eb : ex 39 64 0 [some (vr 5 0 0), some (vr 4 w 0)] [] O = some (nI 0, O0) := by
        rw [sX5_forgetOrder_0, if_pos (by decide), show 8 + Int32.toNatClampNeg (nI 0) = 8 from rfl, e0]
        rfl
      rw [hsel, eb]
      simp only [Option.bind_some]
      rw [r0 6 0 (Or.inl (by decide)), up_row (Or.inl (by decide)), hsel]
      have e1 : ex 39 66 0 [some (vr 5 0 0), some (vr 4 w 0), some (vi (nI K)), some (vi (nI 0)), some (vi (nI 0)), some (vi (nI 0))] [] O0 = some (nI 0, O1) := e1
      rw [e1]
      simp only [Option.bind_some]
      rw [sX5_hasOrder_0, b1.1]
      cases hq : fld A.1 K (nS A.1) [] none with
      | none => rfl
      | some p =>
        have hp := (b1.2.2 p hq).1
        rw [if_neg (show ¬ nI (bT (some p)) = nI 1000 by show ¬ nI p.1 = nI 1000; rw [nI_eq (show p.1 < 2 ^ 31 by omega) (by decide)]; omega)]
        rw [hq] at b1
        simp only [Option.bind_some]
        rw [if_neg (by decide), if_neg (show ¬ (some p).isSome = false from fun h => by cases h), b1.1]
    have mst : ex 40 187 38 [some (vr 7 0 0), some (vi (nI K)), some (vi z), some (vi (nI 1)), some (vi (nI 0))] [] O1 = if z = nI 0 then some (oI ((fld A.1 K (nS A.1) [] none).map Prod.fst), O2) else if oI ((fld A.1 K (nS A.1) [] none).map Prod.fst) = oI none then some (oI ((fld A.1 K (nS A.1) [] none).map Prod.fst), O2) else if ib (z - nI 10) 4 = true then some (O2 7 0 33 (Int32.toNatClampNeg (z - nI 10)), O2) else none := by
      refine e2.trans ((sX7_order_67 39 ..).trans ?_)
      rw [if_neg (nI_nlt (Nat.le_refl _) (by omega))]
    have c0 : ex 40 88 0 [some (vr 6 0 0), some (vi (nI K)), some (vi z)] [] O = if z = nI 0 then ex 40 88 41 [some (vr 6 0 0), some (vi (nI K)), some (vi z), some (vi (z - nI 10))] [] O else if z < nI 10 then some (-1, O) else if z - nI 10 < nI (nS A.1) then ex 40 88 41 [some (vr 6 0 0), some (vi (nI K)), some (vi z), some (vi (z - nI 10))] [] O else some (-1, O) := by
      refine (sX6_order_0 39 ..).trans ?_
      rw [hsel, m_areKinds _ _ hT wT, hx']
      simp only [Option.bind_some]
      rw [if_neg (by decide), hsel, hT.1.2.2.1]
    have m0 : ∀ O, MI (O 7 0) A → ex 40 187 0 [some (vr 7 0 0), some (vi (nI K)), some (vi z)] [] O = if z = nI 0 ∨ inI z (nI 10) (nI (9 + nS A.1)) = true then ex 40 187 38 [some (vr 7 0 0), some (vi (nI K)), some (vi z), some (vi (nI 1)), some (vi (nI 0))] [] O else some (-1, O) := fun O hm => by
      refine (sX7_order_0 39 ..).trans ?_
      rw [n_areKinds 37 _ hm.1 wT, hx']
      simp only [Option.bind_some]
      rw [if_neg (by decide)]
      by_cases z0 : z = nI 0
      · rw [if_pos z0, if_pos (Or.inl z0)]
      · rw [if_neg z0, hm.1.1.2.2.1, nI_add, m_in _ _ z (nI 10) (nI (9 + nS A.1)) (a := 10) (b := Int32.toInt64 (nI (9 + nS A.1))) (by decide) rfl]
        simp only [Option.bind_some]
        cases hq : inI z (nI 10) (nI (9 + nS A.1)) with
        | true => rw [if_neg (show ¬ bI true = nI 0 by decide), if_pos (Or.inr rfl)]
        | false => rw [if_pos bI_f, if_neg (by simp [z0])]
    by_cases z0 : z = nI 0
    · have c1 : ex 40 88 0 [some (vr 6 0 0), some (vi (nI K)), some (vi z)] [] O = some (oI ((fld A.1 K (nS A.1) [] none).map Prod.fst), O1) := by
        rw [c0, if_pos z0, cst]
        cases hq : fld A.1 K (nS A.1) [] none with
        | none => rfl
        | some p =>
          rw [hq] at b1
          rw [if_neg (show ¬ (some p).isSome = false from fun h => by cases h), if_pos z0, b1.1]
          rfl
      have := m0 O1 hm1
      rw [if_pos (Or.inl z0), mst, if_pos z0] at this
      exact ⟨_, A, O1, hw', c1, cci, rc 7 (by decide) (by decide), rc 8 (by decide) (by decide), O2, this, hm2, hcl⟩
    · rcases ten_cases z (N := nS A.1) (by omega) with ⟨i, hi, rfl⟩ | ⟨h1, h2⟩
      · have e : nI (10 + i) - nI 10 = nI i := by rw [pk_sub (by omega), Nat.add_sub_cancel_left]
        have c1 : ex 40 88 0 [some (vr 6 0 0), some (vi (nI K)), some (vi (nI (10 + i)))] [] O = some (orA (fld A.1 K (nS A.1) [] none) i, O1) := by
          rw [c0, if_neg z0, if_neg (nI_nlt (show 10 ≤ 10 + i by omega) (by omega)), e, if_pos (nI_lt hi (by omega)), cst, if_neg z0]
          cases hq : fld A.1 K (nS A.1) [] none with
          | none => rfl
          | some p =>
            rw [if_neg (show ¬ (some p).isSome = false from fun h => by cases h), if_pos (ib_n (by omega) (by decide)), nI_clamp (by omega), (b1.2.2 p hq).2.2.2 i hi]
            rfl
        refine ⟨_, A, O1, hw', c1, cci, rc 7 (by decide) (by decide), rc 8 (by decide) (by decide), O2, ?_, hm2, hcl⟩
        refine (m0 O1 hm1).trans ?_
        rw [if_pos (Or.inr (ten_in hi (by omega))), mst, if_neg z0, e]
        cases hq : fld A.1 K (nS A.1) [] none with
        | none => exact if_pos rfl
        | some p =>
          have hp := (b2 p hq).1
          have hne : ¬ oI (Option.map Prod.fst (some p)) = oI none := oI_sn (show p.1 < 2 ^ 31 by omega)
          rw [if_neg hne, if_pos (ib_n (by omega) (by decide)), nI_clamp (by omega), (b2 p hq).2.2.2 i hi]
          rfl
      · refine CalAt.q hw' hc' hm' (-1) ?_ ?_
        · show ex 40 88 0 [some (vr 6 0 0), some (vi (nI K)), some (vi z)] [] O = _
          rw [c0, if_neg z0]
          rcases h2 with h2 | ⟨h2, h3⟩
          · rw [if_pos h2]
          · rw [if_neg h2, if_neg h3]
        · refine (m0 O hm').trans ?_
          rw [if_neg (by rw [h1]; simp [z0])]
  · have hx := bool_ne hx
    refine CalAt.q hw' hc' hm' (-1) ?_ ?_
    · rw [sX6_order_0]
      simp (disch := omega) only [nI_ltI, nI_eq, nI_add, nI_clamp, ib_n, pk_mul, q_and, q_or, q_dn, q_shl, q_shlm, q_p1, if_true, if_false, ↓reduceIte, Option.bind_some, bI_0, bI_1, bI_01, b_or, Nat.not_lt_zero, Nat.zero_add, Bool.false_eq_true, Bool.true_eq_false, or_false, or_true, true_or, false_or, hsel, m_areKinds (h := hT) (hT := wT), hx]
    · rw [sX7_order_0]
      simp (disch := omega) only [nI_ltI, nI_eq, nI_add, nI_clamp, ib_n, pk_mul, q_and, q_or, q_dn, q_shl, q_shlm, q_p1, if_true, if_false, ↓reduceIte, Option.bind_some, bI_0, bI_1, bI_01, b_or, Nat.not_lt_zero, Nat.zero_add, Bool.false_eq_true, Bool.true_eq_false, or_false, or_true, true_or, false_or, n_areKinds (h := mT) (hT := wT), hx]
