/-! THE LAW CHECKS WHAT THE CLASS ANSWERS: all sounds, the showings. -/
section
variable {A : A_} {O : Mem_}
theorem k_883 {x10 x11 x12 x18 : Int32} {t s K : Nat} (hw : WA A) (hc : CI O A) (hB : LB A.1) (la : LA A.1 (O 7 0)) (lk : LK A O) (hs : s < nS A.1) (ht : t < nT A.1) (hK : K < 2 ^ nK A.1) : ex 10 218 883 [some (vr 8 0 0), some (vr 6 0 0), none, some (vr 7 0 2), some (vr 7 0 3), some (vr 7 0 4), some (vr 7 0 5), some (vr 7 0 7), some (vr 7 0 8), some (vr 7 0 9), some (vi x10), some (vi x11), some (vi x12), none, none, some (vi (nI t)), none, some (vi (nI K)), some (vi x18), some (vi (nI s)), some (vi (nI ((mds A.1 A.2.1.2.1 A.2.1.1).1 s))), some (vi (nI 1)), some (vi (nI 0)), some (vi (nI 0)), some (vi (nI 0))] [] O = ex 10 218 1191 [some (vr 8 0 0), some (vr 6 0 0), none, some (vr 7 0 2), some (vr 7 0 3), some (vr 7 0 4), some (vr 7 0 5), some (vr 7 0 7), some (vr 7 0 8), some (vr 7 0 9), some (vi x10), some (vi x11), some (vi x12), none, none, some (vi (nI t)), none, some (vi (nI K)), none, some (vi (nI s)), none, none, some (vi (nI (csm A.1 (mds A.1 A.2.1.2.1 A.2.1.1) s))), some (vi (nI (sm (nK A.1) (ch_ A.1))))] [vi (nI (if samA A.1 (mds A.1 A.2.1.2.1 A.2.1.1) K s = true then 2 ^ s else 0)), vi x18] O := by
  obtain ⟨b1, b2, b3, b4, b5, b6, b7, b8⟩ := hB
  have hB : LB A.1 := ⟨b1, b2, b3, b4, b5, b6, b7, b8⟩
  have hT := hw.1
  have hn24 := hw.2.1.1
  have hwm := mds_wf (T := A.1) (f := A.2.1.2.1) A.2.1.1 (by omega)
  have i3 : (nI 3).toNatClampNeg = 3 := by decide
  have hK4 : 2 ^ nK A.1 ≤ 2 ^ 4 := Nat.pow_le_pow_right (by decide) b8
  refine (lp_q (fun k => ex 10 218 883 [some (vr 8 0 0), some (vr 6 0 0), none, some (vr 7 0 2), some (vr 7 0 3), some (vr 7 0 4), some (vr 7 0 5), some (vr 7 0 7), some (vr 7 0 8), some (vr 7 0 9), some (vi x10), some (vi x11), some (vi x12), none, none, some (vi (nI t)), none, some (vi (nI K)), some (vi x18), some (vi (nI s)), some (vi (nI ((mds A.1 A.2.1.2.1 A.2.1.1).1 s))), some (vi (bI (bAll A.1 (mds A.1 A.2.1.2.1 A.2.1.1) K s k))), some (vi (nI (sm k fun k => if sam A.1 (mds A.1 A.2.1.2.1 A.2.1.1) k s then ch_ A.1 k else 0))), some (vi (nI (sm k (ch_ A.1)))), some (vi (nI k))] [] O) (nK A.1) (fun k hk => ?_)).trans ?_
  · have hth := ((lk.2 k hk).1 s (by omega)).1
    have st := sL_law_883 9 O x10 x11 x12 (nI t) (nI K) x18 (nI s) (nI ((mds A.1 A.2.1.2.1 A.2.1.1).1 s)) (bI (bAll A.1 (mds A.1 A.2.1.2.1 A.2.1.1) K s k)) (nI (sm k fun k => if sam A.1 (mds A.1 A.2.1.2.1 A.2.1.1) k s then ch_ A.1 k else 0)) (nI (sm k (ch_ A.1))) (nI k)
    rw [if_pos (by decide), i3, la.1.2.2.2, if_pos (by rw [nI_ltI (by omega) (by omega)]; exact hk), l_isSame 8 hT hB la hk hs hth ((hwm.2 k).1 s)] at st
    simp only [Option.bind_some] at st
    rw [q_bitv _ _ (by omega) (by omega)] at st
    refine Eq.trans ?_ (k_1008 hw hc hB la lk hk hs ht)
    refine Eq.trans ?_ (k_931 (so := sam A.1 (mds A.1 A.2.1.2.1 A.2.1.1) k s) hT hB la lk hwm hk hs ht)
    rw [bAll_s]
    refine st.trans ?_
    cases bAll A.1 (mds A.1 A.2.1.2.1 A.2.1.1) K s k with
    | false => rw [if_pos (show bI false = nI 0 from rfl)]; rfl
    | true =>
      rw [if_neg (by decide)]
      cases K.testBit k with
      | false => rw [if_pos (show bI false = nI 0 from rfl)]; rfl
      | true =>
        rw [if_neg (by decide)]
        show (if bI (sam A.1 (mds A.1 A.2.1.2.1 A.2.1.1) k s) = nI 0 then _ else _) = _
        cases hz : sam A.1 (mds A.1 A.2.1.2.1 A.2.1.1) k s with
        | false => rw [if_pos (show bI false = nI 0 from rfl), show inO _ _ = false from hz]; rfl
        | true => rw [if_neg (by decide), show inO _ _ = true from hz]; rfl
  · have st := sL_law_883 9 O x10 x11 x12 (nI t) (nI K) x18 (nI s) (nI ((mds A.1 A.2.1.2.1 A.2.1.1).1 s)) (bI (bAll A.1 (mds A.1 A.2.1.2.1 A.2.1.1) K s (nK A.1))) (nI (sm (nK A.1) fun k => if sam A.1 (mds A.1 A.2.1.2.1 A.2.1.1) k s then ch_ A.1 k else 0)) (nI (sm (nK A.1) (ch_ A.1))) (nI (nK A.1))
    rw [if_pos (by decide), i3, la.1.2.2.2, if_neg (by rw [nI_ltI (by omega) (by omega)]; omega), q_shl s (by omega)] at st
    refine st.trans ?_
    have e : samA A.1 (mds A.1 A.2.1.2.1 A.2.1.1) K s = bAll A.1 (mds A.1 A.2.1.2.1 A.2.1.1) K s (nK A.1) := rfl
    rw [e]
    cases bAll A.1 (mds A.1 A.2.1.2.1 A.2.1.1) K s (nK A.1) with
    | false => rw [if_pos (show bI false = nI 0 from rfl), if_neg (by decide)]; rfl
    | true => rw [if_neg (by decide), if_pos rfl]; rfl
theorem chc_all {T : Td_} : chc T (2 ^ nK T - 1) = sm (nK T) (ch_ T) := by
  unfold chc
  exact sm_ext fun i hi => by rw [Nat.testBit_two_pow_sub_one, decide_eq_true hi, if_pos rfl]
theorem csm_tot {T : Td_} (M : Md_) (s : Nat) : csm T M s ≤ sm (nK T) (ch_ T) := sm_mono fun k _ => by
  split
  · exact Nat.le_refl _
  · exact Nat.zero_le _
theorem k_1191 {x10 x11 x12 : Int32} {t s K z y : Nat} (hw : WA A) (hc : CI O A) (hs : s < nS A.1) : ex 10 218 1191 [some (vr 8 0 0), some (vr 6 0 0), none, some (vr 7 0 2), some (vr 7 0 3), some (vr 7 0 4), some (vr 7 0 5), some (vr 7 0 7), some (vr 7 0 8), some (vr 7 0 9), some (vi x10), some (vi x11), some (vi x12), none, none, some (vi (nI t)), none, some (vi (nI K)), none, some (vi (nI s)), none, none, some (vi (nI (csm A.1 (mds A.1 A.2.1.2.1 A.2.1.1) s))), some (vi (nI (sm (nK A.1) (ch_ A.1))))] [vi (nI y), vi (nI z)] O = ex 10 218 848 [some (vr 8 0 0), some (vr 6 0 0), none, some (vr 7 0 2), some (vr 7 0 3), some (vr 7 0 4), some (vr 7 0 5), some (vr 7 0 7), some (vr 7 0 8), some (vr 7 0 9), some (vi x10), some (vi x11), some (vi x12), none, none, some (vi (nI t)), none, some (vi (nI K)), some (vi (nI (z ||| y))), some (vi (nI (s + 1)))] [] O := by
  have hT := hw.1
  have ht54 := chc_le hT (2 ^ nK A.1 - 1)
  rw [chc_all] at ht54
  have hle := csm_tot (T := A.1) (mds A.1 A.2.1.2.1 A.2.1.1) s
  have hcs : ∀ (hz : ¬ sm (nK A.1) (ch_ A.1) = 0), True := fun _ => trivial
  have st := sL_law_1191 9 O x10 x11 x12 (nI t) (nI K) (nI s) (nI (csm A.1 (mds A.1 A.2.1.2.1 A.2.1.1) s)) (nI (sm (nK A.1) (ch_ A.1))) (nI y) (nI z)
  by_cases h0 : sm (nK A.1) (ch_ A.1) = 0
  · have e0 := a_likely0 hw hc (c := 0) hs (by decide) (by rw [chc_all]; exact h0)
    have e1 := a_likely0 hw hc (c := 1) hs (by decide) (by rw [chc_all]; exact h0)
    rw [e0] at st
    simp only [Option.bind_some] at st
    rw [e1] at st
    simp only [Option.bind_some] at st
    rw [if_pos (by rw [h0]), if_pos trivial, if_pos trivial, q_or, nI_add] at st
    exact st
  · have h0' : ¬ chc A.1 (2 ^ nK A.1 - 1) = 0 := by rw [chc_all]; exact h0
    have e0 := a_likely hw hc (c := 0) hs (by decide) h0'
    have e1 := a_likely hw hc (c := 1) hs (by decide) h0'
    rw [if_pos rfl, chc_all] at e0
    rw [if_neg (by decide), chc_all] at e1
    rw [e0] at st
    simp only [Option.bind_some] at st
    rw [e1] at st
    simp only [Option.bind_some] at st
    generalize csm A.1 (mds A.1 A.2.1.2.1 A.2.1.1) s = c at st hle ⊢
    generalize sm (nK A.1) (ch_ A.1) = n at st hle ht54 h0 ⊢
    have hg : 0 < n.gcd c := Nat.gcd_pos_of_pos_left c (by omega)
    obtain ⟨n', hn'⟩ := Nat.gcd_dvd_left n c
    obtain ⟨c', hc'⟩ := Nat.gcd_dvd_right n c
    have d1 : n / n.gcd c = n' := Nat.div_eq_of_eq_mul_right hg hn'
    have d2 : c / n.gcd c = c' := Nat.div_eq_of_eq_mul_right hg hc'
    have hn0 : 1 ≤ n' := by
      rcases Nat.eq_zero_or_pos n' with z | z
      · rw [z, Nat.mul_zero] at hn'; omega
      · exact z
    have l1 : n' ≤ n := by rw [← d1]; exact Nat.div_le_self _ _
    have l2 : c' ≤ c := by rw [← d2]; exact Nat.div_le_self _ _
    have hm : c' * n = c * n' := by
      have : n.gcd c * (c' * n') = n.gcd c * (c' * n') := rfl
      calc c' * n = c' * (n.gcd c * n') := by rw [← hn']
        _ = (n.gcd c * c') * n' := by rw [Nat.mul_left_comm, Nat.mul_assoc]
        _ = c * n' := by rw [← hc']
    rw [d1, d2, if_neg (by rw [nI_eq (by omega) (by decide)]; exact h0), if_neg (by rw [nI_ltI (by omega) (by decide)]; omega), pk_mul, pk_mul, if_pos (by rw [hm]), q_or] at st
    have s2 := sL_law_1264 9 O x10 x11 x12 (nI t) (nI K) (nI (z ||| y)) (nI s) (nI c) (nI n) (nI c') (nI n')
    rw [if_neg (by rw [nI_ltI (by omega) (by omega)]; omega), if_neg (by rw [nI_ltI (by omega) (by omega)]; omega), nI_add] at s2
    by_cases z0 : c' = 0
    · have hn1 : n' = 1 := by
        rw [z0, Nat.mul_zero] at hc'
        rw [← d1, hc', Nat.gcd_zero_right]
        exact Nat.div_self (by omega)
      rw [if_pos (by rw [z0]), if_pos (by rw [hn1])] at st
      exact st.trans s2
    · rw [if_neg (by rw [nI_eq (by omega) (by decide)]; exact z0)] at st
      exact st.trans s2
theorem k_848 {x10 x11 : Int32} {e t K : Nat} (hw : WA A) (hc : CI O A) (hB : LB A.1) (la : LA A.1 (O 7 0)) (lk : LK A O) (hn : A.2.1.1 ≤ 20) (hx : x10 = nI A.2.1.1) (ht : t < nT A.1) (hK : K < 2 ^ nK A.1) : ex 10 218 848 [some (vr 8 0 0), some (vr 6 0 0), none, some (vr 7 0 2), some (vr 7 0 3), some (vr 7 0 4), some (vr 7 0 5), some (vr 7 0 7), some (vr 7 0 8), some (vr 7 0 9), some (vi x10), some (vi x11), some (vi (nI e)), none, none, some (vi (nI t)), none, some (vi (nI K)), some (vi (nI 0)), some (vi (nI 0))] [] O = ex 10 218 330 [some (vr 8 0 0), some (vr 6 0 0), none, some (vr 7 0 2), some (vr 7 0 3), some (vr 7 0 4), some (vr 7 0 5), some (vr 7 0 7), some (vr 7 0 8), some (vr 7 0 9), some (vi x10), some (vi x11), some (vi (nI (e + 1)))] [] O := by
  obtain ⟨b1, b2, b3, b4, b5, b6, b7, b8⟩ := hB
  have hB : LB A.1 := ⟨b1, b2, b3, b4, b5, b6, b7, b8⟩
  have hT := hw.1
  have i2 : (nI 2).toNatClampNeg = 2 := by decide
  have hx10 := hx
  refine (lp_q (fun s => ex 10 218 848 [some (vr 8 0 0), some (vr 6 0 0), none, some (vr 7 0 2), some (vr 7 0 3), some (vr 7 0 4), some (vr 7 0 5), some (vr 7 0 7), some (vr 7 0 8), some (vr 7 0 9), some (vi x10), some (vi x11), some (vi (nI e)), none, none, some (vi (nI t)), none, some (vi (nI K)), some (vi (nI (ms s (samA A.1 (mds A.1 A.2.1.2.1 A.2.1.1) K)))), some (vi (nI s))] [] O) (nS A.1) (fun s hs => ?_)).trans ?_
  · have st := sL_law_848 9 O x10 x11 (nI e) (nI t) (nI K) (nI (ms s (samA A.1 (mds A.1 A.2.1.2.1 A.2.1.1) K))) (nI s)
    have hfit := l_fitting 8 (s := s) hT hB la (by omega) hn lk.1 (hw.2.1.2.1)
    rw [← hx10] at hfit
    rw [if_pos (by decide), i2, la.1.2.2.1, if_pos (by rw [nI_ltI (by omega) (by omega)]; exact hs), hfit] at st
    simp only [Option.bind_some] at st
    refine (st.trans ((k_883 hw hc hB la lk hs ht hK).trans (k_1191 hw hc hs))).trans ?_
    show ex 10 218 848 [some (vr 8 0 0), some (vr 6 0 0), none, some (vr 7 0 2), some (vr 7 0 3), some (vr 7 0 4), some (vr 7 0 5), some (vr 7 0 7), some (vr 7 0 8), some (vr 7 0 9), some (vi x10), some (vi x11), some (vi (nI e)), none, none, some (vi (nI t)), none, some (vi (nI K)), some (vi (nI (ms s (samA A.1 (mds A.1 A.2.1.2.1 A.2.1.1) K) ||| if samA A.1 (mds A.1 A.2.1.2.1 A.2.1.1) K s = true then 2 ^ s else 0))), some (vi (nI (s + 1)))] [] O = _
    rw [ms_s]
    cases samA A.1 (mds A.1 A.2.1.2.1 A.2.1.1) K s with
    | false => rw [if_neg (by decide), if_neg (by decide), Nat.or_zero]
    | true => rw [if_pos rfl, if_pos rfl]
  · have st := sL_law_848 9 O x10 x11 (nI e) (nI t) (nI K) (nI (ms (nS A.1) (samA A.1 (mds A.1 A.2.1.2.1 A.2.1.1) K))) (nI (nS A.1))
    rw [if_pos (by decide), i2, la.1.2.2.1, if_neg (by rw [nI_ltI (by omega) (by omega)]; omega), a_common hw hc hK] at st
    simp only [Option.bind_some] at st
    first | rw [if_pos rfl, nI_add] at st | rw [if_pos trivial, nI_add] at st
    exact st
end
