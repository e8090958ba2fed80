/-! THE LAW LOOKS WHETHER WHAT WAS TOLD IS SAID. -/
section
theorem lp_q {β : Type} (F : Nat → β) (n : Nat) (h : ∀ k, k < n → F k = F (k + 1)) : F 0 = F n := lp_n (fun k (_ : Unit) => F k) (fun _ a => a) n (fun k _ hk => h k hk) ()
theorem l_ones (d : Nat) (O : Mem_) {a : Nat} (ha : a < 2 ^ 31) : ex (d + 1) 127 0 [some (vi (nI a))] [] O = some (nI (cnt a 12), O) := by
  refine (sL_ones_0 ..).trans ((lp_n (fun k x => ex (d + 1) 127 4 [some (vi (nI a)), some (vi (nI x)), some (vi (nI k))] [] O) (fun k x => x + (a.testBit k).toNat) 12 (fun k x hk => ?_) 0).trans ?_)
  · refine (sL_ones_4 ..).trans ?_
    rw [if_pos (by rw [nI_ltI (by omega) (by decide)]; exact hk), q_bitv a k ha (by omega), nI_add]
    show ex (d + 1) 127 4 [_, some (vi (nI x + nI (a.testBit k).toNat)), _] [] O = _
    rw [nI_add]
  · refine (sL_ones_4 ..).trans ?_
    rw [if_neg (by rw [nI_ltI (by decide) (by decide)]; decide), itn_cnt]
theorem asks_ones {T : Td_} (hT : WT T) (m : Nat) : cnt (hs_ T m) 12 + cnt (hn_ T m) 12 = asks T m := by
  obtain ⟨h1, h2, h3⟩ := hT.2.2.2.2.2.1 m
  unfold asks
  rw [cnt_or h3, cnt_hi (k := 8) h1 12 (by decide), cnt_hi (k := 8) h2 12 (by decide)]
variable {A : A_} {O : Mem_}
theorem k_thing (hw : WA A) (hc : CI O A) (hB : LB A.1) (la : LA A.1 (O 7 0)) : ex 10 218 56 [some (vr 8 0 0), some (vr 6 0 0), some (vr 7 0 1), some (vr 7 0 2), some (vr 7 0 3), some (vr 7 0 4), some (vr 7 0 5), some (vi (nI 0))] [] O = ex 10 218 89 [some (vr 8 0 0), some (vr 6 0 0), some (vr 7 0 1), some (vr 7 0 2), some (vr 7 0 3), some (vr 7 0 4), some (vr 7 0 5), some (vi (nI 0))] [] O := by
  have hB2 := hB.2.1
  have i0 : (nI 0).toNatClampNeg = 0 := by decide
  refine (lp_q (fun t => ex 10 218 56 [some (vr 8 0 0), some (vr 6 0 0), some (vr 7 0 1), some (vr 7 0 2), some (vr 7 0 3), some (vr 7 0 4), some (vr 7 0 5), some (vi (nI t))] [] O) (nT A.1) (fun t ht => ?_)).trans ?_
  · refine (sL_law_56 ..).trans ?_
    rw [if_pos (by decide), i0, la.1.1, if_pos (by rw [nI_ltI (by omega) (by omega)]; exact ht), a_thing hw hc ht]
    simp only [Option.bind_some]
    rw [if_pos (ib_n (by omega) (by decide)), nI_clamp (by omega), la.2.1 t ht, if_pos rfl, nI_add]
  · refine (sL_law_56 ..).trans ?_
    rw [if_pos (by decide), i0, la.1.1, if_neg (by rw [nI_ltI (by omega) (by omega)]; omega)]
theorem k_mean (hw : WA A) (hc : CI O A) (hB : LB A.1) (la : LA A.1 (O 7 0)) : ex 10 218 89 [some (vr 8 0 0), some (vr 6 0 0), some (vr 7 0 1), some (vr 7 0 2), some (vr 7 0 3), some (vr 7 0 4), some (vr 7 0 5), some (vi (nI 0))] [] O = ex 10 218 248 [some (vr 8 0 0), some (vr 6 0 0), some (vr 7 0 1), some (vr 7 0 2), some (vr 7 0 3), some (vr 7 0 4), some (vr 7 0 5), some (vi (nI 0))] [] O := by
  obtain ⟨b1, b2, b3, b4, b5, b6, b7, b8⟩ := hB
  have hT := hw.1
  have i1 : (nI 1).toNatClampNeg = 1 := by decide
  have i3 : (nI 3).toNatClampNeg = 3 := by decide
  refine (lp_q (fun t => ex 10 218 89 [some (vr 8 0 0), some (vr 6 0 0), some (vr 7 0 1), some (vr 7 0 2), some (vr 7 0 3), some (vr 7 0 4), some (vr 7 0 5), some (vi (nI t))] [] O) (nM A.1) (fun m hm => ?_)).trans ?_
  · refine (sL_law_89 ..).trans ?_
    rw [if_pos (by decide), i1, la.1.2.1, if_pos (by rw [nI_ltI (by omega) (by omega)]; exact hm)]
    refine (lp_n (fun k x => ex 10 218 104 [some (vr 8 0 0), some (vr 6 0 0), some (vr 7 0 1), some (vr 7 0 2), some (vr 7 0 3), some (vr 7 0 4), some (vr 7 0 5), some (vi (nI m)), some (vi (nI x)), some (vi (nI k))] [] O) (fun k x => if (can A.1 k).testBit m then x ||| 2 ^ k else x ||| 0) (nK A.1) (fun k x hk => ?_) 0).trans ?_
    · refine (sL_law_104 ..).trans ?_
      have hcl := can_lt hT k
      rw [if_pos (by decide), i3, la.1.2.2.2, if_pos (by rw [nI_ltI (by omega) (by omega)]; exact hk), pk_mul, nI_add, if_pos (ib_n (by omega) (by decide)), nI_clamp (by omega), (la.2.2.2.2 k hk).2.2.2.2.2, q_bitv _ _ (by omega) (by omega), nI_add]
      cases (can A.1 k).testBit m with
      | true => rw [bI_t, q_shl k (by omega), q_or, if_pos rfl]
      | false =>
        have z : nI 0 <<< (nI k &&& (31 : Int32)) = nI 0 := by
          have hk4 : k < 4 := by omega
          match k, hk4 with
          | 0, _ => decide
          | 1, _ => decide
          | 2, _ => decide
          | 3, _ => decide
        rw [bI_f, z, q_or, if_neg (by decide)]
    · rw [itn_ms0]
      refine (sL_law_104 ..).trans ?_
      obtain ⟨m1, m2, m3, m4, m5, -⟩ := a_meaning hw hc hm
      obtain ⟨r1, r2, r3⟩ := la.2.2.1 m hm
      obtain ⟨q1, q2, q3⟩ := hT.2.2.2.2.2.1 m
      rw [if_pos (by decide), i3, la.1.2.2.2, if_neg (by rw [nI_ltI (by omega) (by omega)]; omega), m1]
      simp only [Option.bind_some]
      rw [pk_mul, if_pos (ib_n (by omega) (by decide)), nI_clamp (by omega), r1, if_pos rfl, m2]
      simp only [Option.bind_some]
      rw [nI_add, if_pos (ib_n (by omega) (by decide)), nI_clamp (by omega), r2, if_pos rfl, m3]
      simp only [Option.bind_some]
      rw [if_pos (ib_n (by omega) (by decide)), r1, l_ones 8 O (by omega)]
      simp only [Option.bind_some]
      rw [if_pos (ib_n (by omega) (by decide)), r2, l_ones 8 O (by omega)]
      simp only [Option.bind_some]
      rw [nI_add, asks_ones hT, if_pos rfl, m4]
      simp only [Option.bind_some]
      rw [nI_add, if_pos (ib_n (by omega) (by decide)), nI_clamp (by omega), r3, if_pos rfl, m5]
      simp only [Option.bind_some]
      rw [if_pos trivial, nI_add]
  · refine (sL_law_89 ..).trans ?_
    rw [if_pos (by decide), i1, la.1.2.1, if_neg (by rw [nI_ltI (by omega) (by omega)]; omega)]
theorem k_kind (hw : WA A) (hc : CI O A) (hB : LB A.1) (la : LA A.1 (O 7 0)) : ex 10 218 248 [some (vr 8 0 0), some (vr 6 0 0), some (vr 7 0 1), some (vr 7 0 2), some (vr 7 0 3), some (vr 7 0 4), some (vr 7 0 5), some (vi (nI 0))] [] O = some (nI 7, O) := by
  obtain ⟨b1, b2, b3, b4, b5, b6, b7, b8⟩ := hB
  have i3 : (nI 3).toNatClampNeg = 3 := by decide
  refine (lp_q (fun t => ex 10 218 248 [some (vr 8 0 0), some (vr 6 0 0), some (vr 7 0 1), some (vr 7 0 2), some (vr 7 0 3), some (vr 7 0 4), some (vr 7 0 5), some (vi (nI t))] [] O) (nK A.1) (fun k hk => ?_)).trans ?_
  · refine (sL_law_248 ..).trans ?_
    rw [if_pos (by decide), i3, la.1.2.2.2, if_pos (by rw [nI_ltI (by omega) (by omega)]; exact hk)]
    obtain ⟨k0, k1, k2, k3, k4, k5, -⟩ := a_kind hw hc hk
    obtain ⟨r0, r1, r2, r3, r4, r5⟩ := la.2.2.2.2 k hk
    refine (lp_q (fun q => ex 10 218 260 [some (vr 8 0 0), some (vr 6 0 0), some (vr 7 0 1), some (vr 7 0 2), some (vr 7 0 3), some (vr 7 0 4), some (vr 7 0 5), some (vi (nI k)), some (vi (nI q))] [] O) 6 (fun q hq => ?_)).trans ?_
    · obtain ⟨v, hv1, hv2⟩ : ∃ v, ex 9 74 0 [some (vr 6 0 0), some (vi (nI k)), some (vi (nI q))] [] O = some (v, O) ∧ O 7 0 4 (6 * k + q) = v := by
        match q, hq with
        | 0, _ => exact ⟨_, k0, r0⟩
        | 1, _ => exact ⟨_, k1, r1⟩
        | 2, _ => exact ⟨_, k2, r2⟩
        | 3, _ => exact ⟨_, k3, r3⟩
        | 4, _ => exact ⟨_, k4, r4⟩
        | 5, _ => exact ⟨_, k5, r5⟩
      refine (sL_law_260 ..).trans ?_
      rw [if_pos (by rw [nI_ltI (by omega) (by omega)]; exact hq), hv1]
      simp only [Option.bind_some]
      rw [pk_mul, nI_add, if_pos (ib_n (by omega) (by decide)), nI_clamp (by omega), hv2, if_pos rfl, nI_add]
    · refine (sL_law_260 ..).trans ?_
      rw [if_neg (by rw [nI_ltI (by decide) (by decide)]; decide), nI_add]
  · refine (sL_law_248 ..).trans ?_
    rw [if_pos (by decide), i3, la.1.2.2.2, if_neg (by rw [nI_ltI (by omega) (by omega)]; omega)]
    exact (sL_law_303 ..).trans (if_pos rfl)
theorem k_told (hw : WA A) (hc : CI O A) (hB : LB A.1) (la : LA A.1 (O 7 0)) : ex 10 218 48 [some (vr 8 0 0), some (vr 6 0 0), some (vr 7 0 1), some (vr 7 0 2), some (vr 7 0 3), some (vr 7 0 4), some (vr 7 0 5)] [vi (nI 1)] O = some (nI 7, O) := by
  refine (sL_law_48 ..).trans ?_
  rw [if_neg (by decide)]
  exact (k_thing hw hc hB la).trans ((k_mean hw hc hB la).trans (k_kind hw hc hB la))
end
