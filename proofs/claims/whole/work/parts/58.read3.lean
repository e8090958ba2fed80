/-! read, 3: the call. -/
section
theorem q_read (x y z u : Int32) : Cal 106 214 [some (vi x), some (vi y), some (vi z), some (vi u)] := Cal.of fun O A hw hc hm => by
  have hc' := hc
  have hm' := hm
  obtain ⟨w, cw, c9, hT, hS, hI, hB, hM, hP, hF, hSh⟩ := hc
  have hsel := cw.sel
  obtain ⟨mT, mSc, mIm, mN, mP, mF, mSh, mt⟩ := hm
  have hw' := hw
  obtain ⟨wT, wS, wI, wP, wF, wSh, wt⟩ := hw
  have h8 := wT.1
  have h12 := wT.2.1
  have h4 := wT.2.2.1
  have h6 := wT.2.2.2.1
  have wMd : WMd A.1 (mds A.1 A.2.1.2.1 A.2.1.1) := mds_wf _ (by have := wS.1; omega)
  have kmC : ∀ k, k < nK A.1 → KM (O 0 0) k ((mds A.1 A.2.1.2.1 A.2.1.1).2 k) := fun k hk => hM.2.2 k hk (by rw [Nat.testBit_two_pow_sub_one, decide_eq_true hk])
  have kmN : ∀ k, k < nK A.1 → KN (O 7 0) (10 * k) ((mds A.1 A.2.1.2.1 A.2.1.1).2 k) := fun k hk => by have := mN.1 k hk; rwa [Nat.zero_add] at this
  have cl := sX6_read_0 39 O x y z u
  simp only [hs_split] at cl
  have ml : ∀ O, ex 40 214 0 [some (vr 7 0 0), some (vi x), some (vi y), some (vi z), some (vi u)] [] O = _ := fun O => sX7_read_0 39 O x y z u
  by_cases hx : (hsI x 4 && hsI y 3) = true
  · have hx2 := hx
    rw [Bool.and_eq_true] at hx
    rw [if_pos hx.1, if_pos hx.2] at cl
    by_cases hu : hsI u 14 = true
    · obtain ⟨k, hk, rfl⟩ := hsI_of (by decide) hx.1
      obtain ⟨l, hl, rfl⟩ := hsI_of (by decide) hx.2
      have hu' := hu
      obtain ⟨n, hn, rfl⟩ := hsI_of (by decide) hu
      rw [hsI_ye (by decide) (by omega)] at cl
      have ml2 : ∀ O, ex 40 214 0 [some (vr 7 0 0), some (vi (nI k)), some (vi (nI l)), some (vi z), some (vi (nI n))] [] O = ex 40 214 32 [some (vr 7 0 0), some (vi (nI k)), some (vi (nI l)), some (vi z), some (vi (nI n)), some (vi (nI 0)), some (vi (nI 0)), some (vi (nI 0))] [] O := fun O => by
        rw [ml O, n_isSheet, hx2]
        simp only [Option.bind_some]
        rw [if_neg (by decide), m_in _ _ (nI n) (nI 0) (nI 13) (a := 0) (b := 13) (by decide) (by decide), inI_c _ (by decide), hu']
        simp only [Option.bind_some]
        rw [if_neg (by decide)]
      -- nothing is read
      have zero : ∀ v, v < 4 → ex 40 106 0 [some (vr 6 0 0), some (vi (nI k)), some (vi (nI l)), some (vi z), some (vi (nI n))] [] O = some (nI 0, up O 6 0 0 9 (nI v)) → (∀ O, MI (O 7 0) A → ex 40 214 0 [some (vr 7 0 0), some (vi (nI k)), some (vi (nI l)), some (vi z), some (vi (nI n))] [] O = ex 40 214 239 [some (vr 7 0 0), some (vi (nI k)), none, some (vi z), none, none, some (vi (nI 0)), some (vi (nI 0))] [] (up O 7 0 0 44 (nI v))) → CalAt 106 214 [some (vi (nI k)), some (vi (nI l)), some (vi z), some (vi (nI n))] O A := fun v hv h1 h2 => by
        have hm1 : MI ((up O 6 0 0 9 (nI v)) 7 0) A := by rw [up_row (Or.inl (by decide))]; exact hm'
        refine ⟨nI 0, _, up O 6 0 0 9 (nI v), hw'.torn (v := v) (by omega), h1, hc'.torn v, funext fun n => up_row (Or.inl (by decide)), funext fun n => up_row (Or.inl (by decide)), up (up O 6 0 0 9 (nI v)) 7 0 0 44 (nI v), ?_, hm1.torn v, fun c z => funext fun n => up_row (Or.inl z)⟩
        refine (h2 _ hm1).trans ?_
        rw [sX7_read_239, if_neg (by decide)]
      -- the class behind a refusal
      have cref : ∀ r, 0 < r → r < 4 → ex 40 106 50 [some (vr 6 0 0), some (vi (nI k)), none, some (vi z), some (vi (nI n))] [vi (nI r)] O = some (nI 0, up O 6 0 0 9 (nI r)) := fun r h0 h4 => by
        have hr0 : ¬ nI r = nI 0 := by rw [nI_eq (by omega) (by decide)]; omega
        refine (sX6_read_50 39 O (nI k) z (nI n) (nI r)).trans ?_
        rw [if_neg hr0, sX6_read_72, sX6_firstWrongRead_0, sX6_firstWrongRead_3, if_neg (by decide)]
        simp only [Option.bind_some]
        rw [if_pos True.intro, sX6_read_95, if_neg (by decide), if_neg hr0]
      -- class: no whole showing
      have cno : ex 39 18 0 [some (vr 2 0 0), some (vi (nI k)), some (vi z), some (vi (nI n))] [] O = some (nI 0, O) → ex 40 106 50 [some (vr 6 0 0), some (vi (nI k)), none, some (vi z), some (vi (nI n))] [vi (nI 0)] O = some (nI 0, up O 6 0 0 9 (nI (if 0 < n then 2 else 0))) := fun h => by
        refine (sX6_read_50 39 O (nI k) z (nI n) (nI 0)).trans ?_
        rw [if_pos rfl, h]
        simp only [Option.bind_some]
        rw [sX6_read_72, sX6_firstWrongRead_0, sX6_firstWrongRead_3, if_neg (by decide)]
        simp only [Option.bind_some]
        rw [if_pos True.intro, sX6_read_95, if_neg (by decide), if_pos rfl]
        by_cases q : 0 < n
        · rw [if_pos (nI_lt q (by omega)), if_pos q]
        · rw [if_neg (nI_nlt (by omega) (by omega)), if_neg q]
      have cs := hSh k hk
      have ms := mSh k hk
      by_cases n0 : n = 0
      · subst n0
        rw [if_pos rfl] at cl
        refine zero 0 (by decide) (cl.trans ?_) (fun O hm => (ml2 O).trans ?_)
        · have w0 : ex 39 18 0 [some (vr 2 0 0), some (vi (nI k)), some (vi z), some (vi (nI 0))] [] O = some (nI 0, O) := by
            rw [sX2_wholeShowings_0, if_neg (by rw [nI_ltI (by omega) (by decide)]; omega), if_pos (nI_lt hk (by decide))]
            by_cases z0 : z < nI 0
            · rw [if_pos z0]
            · rw [if_neg z0, nI_clamp (by omega), if_pos (ib_n hk (by decide))]
              by_cases z1 : O 2 0 1 k < z
              · rw [if_pos z1]
              · rw [if_neg z1, if_pos (ib_n hk (by decide)), if_neg (by decide)]
                obtain ⟨f, hf, rfl⟩ := nI_of z0
                have : ∃ a, (O 2 0 1 k - nI f) / nI 3 = nI a ∧ a < 2 ^ 31 := by
                  cases hs : A.2.2.2.2.2.1 k with
                  | none =>
                    rw [hs] at cs
                    dsimp only at cs
                    rw [cs] at z1
                    exact absurd (Int32.lt_iff_toInt_lt.mpr (by rw [nI_toInt hf, show (oI none).toInt = -4 by decide]; omega)) z1
                  | some s =>
                    rw [hs] at cs
                    dsimp only at cs
                    have := wSh k s hs
                    rw [cs.1, nI_ltI (by omega) hf] at z1
                    exact ⟨(s.2.1 - f) / 3, by rw [cs.1, pk_sub (by omega), pk_div (by omega) (by decide) (by decide)], by omega⟩
                obtain ⟨a, e, ha⟩ := this
                rw [e]
                by_cases q : a = 0
                · subst q; rw [ite_self]
                · rw [if_neg (nI_nlt (Nat.zero_le _) ha)]
          exact cno w0
        · refine (sX7_read_32 39 O (nI k) (nI l) z (nI 0) (nI 0) (nI 0) (nI 0)).trans ?_
          rw [if_neg (by decide)]
      · rw [if_neg (by rw [nI_eq (by omega) (by decide)]; exact n0)] at cl
        -- the model with a reason at once
        have mreason : ∀ O r, 0 < r → r < 4 → ex 40 214 47 [some (vr 7 0 0), some (vi (nI k)), some (vi (nI l)), some (vi z), some (vi (nI n)), some (vi (nI 0)), some (vi (nI 0)), some (vi (nI 0)), some (vi (nI 0))] [] O = ex 40 214 47 [some (vr 7 0 0), some (vi (nI k)), some (vi (nI l)), some (vi z), some (vi (nI n)), some (vi (nI r)), some (vi (nI 0)), some (vi (nI 0)), some (vi (nI 1))] [] O → ex 40 214 0 [some (vr 7 0 0), some (vi (nI k)), some (vi (nI l)), some (vi z), some (vi (nI n))] [] O = ex 40 214 239 [some (vr 7 0 0), some (vi (nI k)), none, some (vi z), none, none, some (vi (nI 0)), some (vi (nI 0))] [] (up O 7 0 0 44 (nI r)) := fun O r h0 h4 h => by
          have hr0 : ¬ nI r = nI 0 := by rw [nI_eq (by omega) (by decide)]; omega
          refine (ml2 O).trans ((sX7_read_32 39 O (nI k) (nI l) z (nI n) (nI 0) (nI 0) (nI 0)).trans ?_)
          rw [if_pos (nI_lt (by omega) (by omega)), if_pos rfl]
          refine h.trans ((sX7_read_47 39 O (nI k) (nI l) z (nI n) (nI r) (nI 0) (nI 0) (nI 1)).trans ?_)
          rw [if_pos (by decide), if_neg hr0, sX7_read_134, if_neg hr0, nI_add, sX7_read_32, if_neg hr0, ite_self]
        cases hs : A.2.2.2.2.2.1 k with
        | none =>
          rw [hs] at cs ms
          dsimp only at cs ms
          refine zero 1 (by decide) (cl.trans ?_) (fun O hm => mreason O 1 (by decide) (by decide) ?_)
          · have e17 : ex 39 17 0 [some (vr 2 0 0), some (vi (nI k)), some (vi (nI l))] [] O = some (nI 1, O) := by
              rw [sX2_refusal_0, if_neg (by rw [nI_ltI (by omega) (by decide)]; omega), if_pos (nI_lt hk (by decide)), nI_clamp (by omega), if_pos (ib_n hk (by decide)), cs, if_pos rfl]
            rw [e17]
            simp only [Option.bind_some]
            exact cref 1 (by decide) (by decide)
          · have ms := hm.2.2.2.2.2.2.1 k hk
            rw [hs] at ms
            dsimp only at ms
            refine (sX7_read_47 39 O (nI k) (nI l) z (nI n) (nI 0) (nI 0) (nI 0) (nI 0)).trans ?_
            rw [if_pos (by decide), if_pos rfl, nI_clamp (by omega), if_pos (ib_n hk (by decide)), ms, if_pos rfl, nI_add]
        | some s =>
          rw [hs] at cs ms
          dsimp only at cs ms
          have wu := wSh k s hs
          have hne := oI_none (j := s.2.1) (by omega)
          have hne2 := oI_none (j := s.1) (by omega)
          by_cases hl2 : s.1 = l
          · have e17 : ex 39 17 0 [some (vr 2 0 0), some (vi (nI k)), some (vi (nI l))] [] O = some (nI 0, O) := by
              rw [sX2_refusal_0, if_neg (by rw [nI_ltI (by omega) (by decide)]; omega), if_pos (nI_lt hk (by decide)), nI_clamp (by omega), if_pos (ib_n hk (by decide)), cs.1, if_neg hne, if_pos (ib_n hk (by decide)), cs.2.1, if_pos (by rw [hl2])]
            rw [e17] at cl
            simp only [Option.bind_some] at cl
            have index : ex 39 18 0 [some (vr 2 0 0), some (vi (nI k)), some (vi z), some (vi (nI n))] [] O = some (nI 0, O) → ((lg_cmp (Int32.toInt64 z) 0 < nI 0) ∨ ¬ (lg_cmp (Int32.toInt64 z) (Int32.toInt64 (nI s.2.1)) < nI 0)) → CalAt 106 214 [some (vi (nI k)), some (vi (nI l)), some (vi z), some (vi (nI n))] O A := fun h1 h2 => by
              refine zero 2 (by decide) (cl.trans ((cno h1).trans ?_)) (fun O hm => mreason O 2 (by decide) (by decide) ?_)
              · rw [if_pos (by omega)]
              · have ms := hm.2.2.2.2.2.2.1 k hk
                rw [hs] at ms
                dsimp only at ms
                refine (sX7_read_47 39 O (nI k) (nI l) z (nI n) (nI 0) (nI 0) (nI 0) (nI 0)).trans ?_
                rw [if_pos (by decide), if_pos rfl, nI_clamp (by omega), if_pos (ib_n hk (by decide)), ms.1, if_neg hne2, if_pos (ib_n hk (by decide)), if_pos (by rw [hl2]), rd_0, ms.2.1, nI_add]
                by_cases q : lg_cmp (Int32.toInt64 z) 0 < nI 0
                · rw [if_pos q]
                · rw [if_neg q, if_pos (ib_n hk (by decide)), if_neg (h2.resolve_left q)]
            have w18 := sX2_wholeShowings_0 38 O (nI k) z (nI n)
            rw [if_neg (by rw [nI_ltI (by omega) (by decide)]; omega), if_pos (nI_lt hk (by decide))] at w18
            by_cases z0 : z < nI 0
            · rw [if_pos z0] at w18
              exact index w18 (Or.inl (by rw [show (0 : Int64) = Int32.toInt64 (nI 0) by decide, lg_lt, i64_lt]; exact z0))
            · rw [if_neg z0, nI_clamp (by omega), if_pos (ib_n hk (by decide)), cs.1] at w18
              obtain ⟨f, hf, rfl⟩ := nI_of z0
              by_cases z1 : nI s.2.1 < nI f
              · rw [if_pos z1] at w18
                refine index w18 (Or.inr ?_)
                rw [lg_lt, i64_lt, nI_ltI hf (by omega)]
                rw [nI_ltI (by omega) hf] at z1
                omega
              · rw [if_neg z1, if_pos (ib_n hk (by decide)), if_neg (by decide)] at w18
                rw [nI_ltI (by omega) hf] at z1
                obtain ⟨W, hW⟩ : ∃ W, W = min n ((s.2.1 - f) / 3) := ⟨_, rfl⟩
                have w18 : ex 39 18 0 [some (vr 2 0 0), some (vi (nI k)), some (vi (nI f)), some (vi (nI n))] [] O = some (nI W, O) := by
                  rw [w18, pk_sub (by omega), pk_div (by omega) (by decide) (by decide)]
                  by_cases q : (s.2.1 - f) / 3 < n
                  · rw [if_pos (nI_lt q (by omega)), hW, Nat.min_eq_right (by omega)]
                  · rw [if_neg (nI_nlt (by omega) (by omega)), hW, Nat.min_eq_left (by omega)]
                have h24 := wS.1
                have fw := m_firstWrong 37 (O := O) (W := W) (f := f) (sh := A.2.1.1) hk (by omega) hsel hT cs.2.2 hS.1 h24
                have cl2 : ex 40 106 0 [some (vr 6 0 0), some (vi (nI k)), some (vi (nI l)), some (vi (nI f)), some (vi (nI n))] [] O = ((ex 39 119 0 [some (vr 6 0 0), some (vi (nI k)), some (vi (nI f)), some (vi (nI W))] [] O).bind fun r0 => if r0.1 = nI 0 then (ex 40 106 95 [some (vr 6 0 0), some (vi (nI k)), none, some (vi (nI f)), some (vi (nI n)), some (vi (nI 0)), some (vi (nI W)), none, some (vi (nI 0))] [] r0.2) else (some (r0.1, r0.2))) := by
                  refine cl.trans ((sX6_read_50 39 O (nI k) (nI f) (nI n) (nI 0)).trans ?_)
                  rw [if_pos rfl, w18]
                  simp only [Option.bind_some]
                  rw [sX6_read_72]
                have mscan : ∀ O, MI (O 7 0) A → ex 40 214 0 [some (vr 7 0 0), some (vi (nI k)), some (vi (nI l)), some (vi (nI f)), some (vi (nI n))] [] O = _ := fun O hm => (ml2 O).trans (n_read32 37 (O := O) (W := W) (sz := s.2.1) (n := n) (f := f) (l := l) (sh := A.2.1.1) (c := s.2.2) hk hl (by omega) (by omega) (by omega) (by omega) hm.1 wT (by have ms := hm.2.2.2.2.2.2.1 k hk; rw [hs] at ms; dsimp only at ms; rw [ms.1, hl2]) (by have ms := hm.2.2.2.2.2.2.1 k hk; rw [hs] at ms; exact ms.2.1) (by have ms := hm.2.2.2.2.2.2.1 k hk; rw [hs] at ms; exact ms.2.2) hm.2.1.1 h24)
                cases hfd : (List.range W).find? (rdX A.1 s.2.2 f A.2.1.1) with
                | some i =>
                  have hi := List.mem_range.mp (List.mem_of_find?_eq_some hfd)
                  rw [hfd] at fw
                  refine CalAt.q hw' hc' hm' (rdV A.1 s.2.2 f i) (cl2.trans ?_) ((mscan O hm').trans ?_)
                  · rw [fw]
                    simp only [Option.bind_some]
                    rw [if_neg (rdV_ne _ _ _ (by omega))]
                  · rw [hfd]
                | none =>
                  rw [hfd] at fw
                  obtain ⟨O1, e1, c1, c7, c8⟩ := m_read95 34 (O := O) (W := W) (f := f) (n := n) (r := 0) hw' hc' hk (by omega) (by decide) (by omega) cs.2.2 hfd
                  generalize hv : (if 0 = 0 then (if W < n then 2 else 0) else 0 : Nat) = v at e1
                  have hv2 : v = if W < n then 2 else 0 := by rw [← hv, if_pos rfl]
                  have hv10 : v < 10 := by rw [hv2]; split <;> decide
                  have wA' := (rdT_wf hw' hfd W (Nat.le_refl _)).torn (v := v) hv10
                  have o7 : (up O1 6 0 0 9 (nI v)) 7 = O 7 := (funext fun n => up_row (Or.inl (by decide))).trans c7
                  have hm1 : MI ((up O1 6 0 0 9 (nI v)) 7 0) A := by rw [o7]; exact hm'
                  have hm2 : MI ((up (up O1 6 0 0 9 (nI v)) 7 0 0 44 (nI v)) 7 0) (A.1, A.2.1, A.2.2.1, A.2.2.2.1, A.2.2.2.2.1, A.2.2.2.2.2.1, v) := hm1.torn v
                  have wA2 : WA (A.1, A.2.1, A.2.2.1, A.2.2.2.1, A.2.2.2.2.1, A.2.2.2.2.2.1, v) := hw'.torn hv10
                  have ms2 := hm2.2.2.2.2.2.2.1 k hk
                  have hs2 : (A.1, A.2.1, A.2.2.1, A.2.2.2.1, A.2.2.2.2.1, A.2.2.2.2.2.1, v).2.2.2.2.2.1 k = some s := hs
                  rw [hs2] at ms2
                  dsimp only at ms2
                  obtain ⟨O3, e3, m3, r3⟩ := n_read239 32 (O := up (up O1 6 0 0 9 (nI v)) 7 0 0 44 (nI v)) (W := W) (f := f) wA2 hm2 hk (by omega) ms2.2.2 hfd
                  refine ⟨nI W, _, up O1 6 0 0 9 (nI v), wA', ?_, c1.torn v, o7, (funext fun n => up_row (Or.inl (by decide))).trans c8, O3, ?_, m3, fun c z => (r3 c z).trans (funext fun n => up_row (Or.inl z))⟩
                  · refine cl2.trans ?_
                    rw [fw]
                    simp only [Option.bind_some]
                    rw [if_pos True.intro]
                    exact e1
                  · refine (mscan _ hm1).trans ?_
                    rw [hfd]
                    refine (sX7_read_32 39 _ (nI k) (nI l) (nI f) (nI n) (nI 0) (nI W) (nI W)).trans ?_
                    by_cases q : W < n
                    · have hv3 : v = 2 := by rw [hv2, if_pos q]
                      rw [if_pos (nI_lt q (by omega)), if_pos rfl]
                      subst hv3
                      have ms1 := hm1.2.2.2.2.2.2.1 k hk
                      rw [hs] at ms1
                      dsimp only at ms1
                      -- the showing that is torn
                      have step : ∀ c, c < 3 → ex 40 214 47 [some (vr 7 0 0), some (vi (nI k)), some (vi (nI l)), some (vi (nI f)), some (vi (nI n)), some (vi (nI 0)), some (vi (nI W)), some (vi (nI W)), some (vi (nI c))] [] (up O1 6 0 0 9 (nI 2)) = ex 40 214 47 [some (vr 7 0 0), some (vi (nI k)), some (vi (nI l)), some (vi (nI f)), some (vi (nI n)), some (vi (nI (if f + 3 * W + c < s.2.1 then 0 else 2))), some (vi (nI W)), some (vi (nI W)), some (vi (nI (c + 1)))] [] (up O1 6 0 0 9 (nI 2)) := fun c hc => by
                        refine (sX7_read_47 39 _ (nI k) (nI l) (nI f) (nI n) (nI 0) (nI W) (nI W) (nI c)).trans ?_
                        have q1 : ¬ (lg_cmp (Int32.toInt64 (nI f) + Int32.toInt64 (nI (3 * W)) + Int32.toInt64 (nI c)) 0 < nI 0) := by
                          rw [rd_l f W c (by omega) (by omega) (by omega), show (0 : Int64) = Int32.toInt64 (nI 0) by decide, lg_lt, i64_lt, nI_ltI (by omega) (by decide)]
                          omega
                        have q2 : (lg_cmp (Int32.toInt64 (nI f) + Int32.toInt64 (nI (3 * W)) + Int32.toInt64 (nI c)) (Int32.toInt64 (nI s.2.1)) < nI 0) ↔ f + 3 * W + c < s.2.1 := by
                          rw [rd_l f W c (by omega) (by omega) (by omega), lg_lt, i64_lt, nI_ltI (by omega) (by omega)]
                        rw [if_pos (nI_lt hc (by decide)), if_pos rfl, nI_clamp (by omega), if_pos (ib_n hk (by decide)), ms1.1, if_neg hne2, if_pos (ib_n hk (by decide)), if_pos (by rw [hl2]), pk_mul, if_neg q1, if_pos (ib_n hk (by decide)), ms1.2.1, nI_add]
                        by_cases h9 : f + 3 * W + c < s.2.1
                        · rw [if_pos (q2.mpr h9), if_pos h9]
                        · rw [if_neg (fun h => h9 (q2.mp h)), if_neg h9]
                      have stop : ∀ c, ex 40 214 47 [some (vr 7 0 0), some (vi (nI k)), some (vi (nI l)), some (vi (nI f)), some (vi (nI n)), some (vi (nI 2)), some (vi (nI W)), some (vi (nI W)), some (vi (nI c))] [] (up O1 6 0 0 9 (nI 2)) = some (nI W, O3) := fun c => by
                        refine (sX7_read_47 39 _ (nI k) (nI l) (nI f) (nI n) (nI 2) (nI W) (nI W) (nI c)).trans ?_
                        have h20 : ¬ (nI 2 = nI 0) := by decide
                        rw [if_neg h20, ite_self, sX7_read_134, if_neg h20, nI_add, sX7_read_32, if_neg h20, ite_self]
                        exact e3
                      have last : ¬ f + 3 * W + 2 < s.2.1 := by omega
                      refine (step 0 (by decide)).trans ?_
                      by_cases h0 : f + 3 * W + 0 < s.2.1
                      · rw [if_pos h0]
                        refine (step 1 (by decide)).trans ?_
                        by_cases h1 : f + 3 * W + 1 < s.2.1
                        · rw [if_pos h1]
                          refine (step 2 (by decide)).trans ?_
                          rw [if_neg last]
                          exact stop _
                        · rw [if_neg h1]; exact stop _
                      · rw [if_neg h0]; exact stop _
                    · have hv3 : v = 0 := by rw [hv2, if_neg q]
                      rw [if_neg (nI_nlt (by omega) (by omega))]
                      subst hv3
                      exact e3
          · have e17 : ex 39 17 0 [some (vr 2 0 0), some (vi (nI k)), some (vi (nI l))] [] O = some (nI 3, O) := by
              rw [sX2_refusal_0, if_neg (by rw [nI_ltI (by omega) (by decide)]; omega), if_pos (nI_lt hk (by decide)), nI_clamp (by omega), if_pos (ib_n hk (by decide)), cs.1, if_neg hne, if_pos (ib_n hk (by decide)), cs.2.1, if_neg (by rw [nI_eq (by omega) (by omega)]; exact hl2)]
            refine zero 3 (by decide) (cl.trans ?_) (fun O hm => mreason O 3 (by decide) (by decide) ?_)
            · rw [e17]
              simp only [Option.bind_some]
              exact cref 3 (by decide) (by decide)
            · have ms := hm.2.2.2.2.2.2.1 k hk
              rw [hs] at ms
              dsimp only at ms
              refine (sX7_read_47 39 O (nI k) (nI l) z (nI n) (nI 0) (nI 0) (nI 0) (nI 0)).trans ?_
              rw [if_pos (by decide), if_pos rfl, nI_clamp (by omega), if_pos (ib_n hk (by decide)), ms.1, if_neg hne2, if_pos (ib_n hk (by decide)), if_neg (by rw [nI_eq (by omega) (by omega)]; exact hl2), nI_add]
    · have hu := bool_ne hu
      refine CalAt.q hw' hc' hm' (-1) (cl.trans (hsI_no (by decide) hu _ _)) ((ml O).trans ?_)
      rw [n_isSheet, hx2]
      simp only [Option.bind_some]
      rw [if_neg (by decide), m_in _ _ u (nI 0) (nI 13) (a := 0) (b := 13) (by decide) (by decide), inI_c _ (by decide), hu]
      rfl
  · have hx2 := bool_ne hx
    refine CalAt.q hw' hc' hm' (-1) (cl.trans ?_) ((ml O).trans ?_)
    · rcases Bool.and_eq_false_iff.mp hx2 with h | h
      · rw [if_neg (by rw [h]; decide)]
      · rw [if_neg (c := hsI y 3 = true) (by rw [h]; decide), ite_self]
    · rw [n_isSheet, hx2]
      simp (disch := omega) only [nI_ltI, nI_eq, nI_add, nI_clamp, ib_n, pk_mul, q_and, q_or, q_dn, q_shl, q_shlm, q_p1, if_true, if_false, ↓reduceIte, Option.bind_some, bI_0, bI_1, bI_01, b_or, Nat.not_lt_zero, Nat.zero_add, Bool.false_eq_true, Bool.true_eq_false, or_false, or_true, true_or, false_or]
end
