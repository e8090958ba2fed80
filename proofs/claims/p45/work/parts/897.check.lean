/-! THE LAW CHECKS WHAT THE CLASS ANSWERS: kinds, sounds. -/
section
variable {A : A_} {O : Mem_}
/-- the law holds the showings and the minds of the class -/
def LK (A : A_) (O : Mem_) : Prop := SH (O 7 0) A.2.1.2.1 A.2.1.1 ∧ ∀ k, k < nK A.1 → KS (O 7 0) k ((mds A.1 A.2.1.2.1 A.2.1.1).2 k)
def bAll (T : Td_) (M : Md_) (K s k : Nat) : Bool := (List.range k).all fun k => !K.testBit k || sam T M k s
theorem bAll_s (T : Td_) (M : Md_) (K s k : Nat) : bAll T M K s (k + 1) = (bAll T M K s k && (!K.testBit k || sam T M k s)) := by
  unfold bAll
  rw [List.range_succ, List.all_append]
  simp
theorem ans_v (T : Td_) (M : Md_) (k s t : Nat) : oI (ans T M k s t) = match (M.2 k).1 s with | none => oI none | some m => bI ((are T m).testBit t) := by
  unfold ans
  cases (M.2 k).1 s with
  | none => rfl
  | some m => rfl
theorem k_931 {x10 x11 x12 x17 x18 x20 y0 : Int32} {t s k x22 x23 : Nat} {so : Bool} (hT : WT A.1) (hB : LB A.1) (la : LA A.1 (O 7 0)) (lk : LK A O) (hw2 : WMd A.1 (mds A.1 A.2.1.2.1 A.2.1.1)) (hk : k < nK A.1) (hs : s < nS A.1) (ht : t < nT A.1) : ex 10 218 931 [some (vr 8 0 0), some (vr 6 0 0), none, some (vr 7 0 2), some (vr 7 0 3), some (vr 7 0 4), some (vr 7 0 5), some (vr 7 0 7), some (vr 7 0 8), some (vr 7 0 9), some (vi x10), some (vi x11), some (vi x12), none, none, some (vi (nI t)), none, some (vi x17), some (vi x18), some (vi (nI s)), some (vi x20), none, some (vi (nI x22)), some (vi (nI x23)), some (vi (nI k)), some (vi (bI so))] [vi y0] O = ex 10 218 1008 [some (vr 8 0 0), some (vr 6 0 0), none, some (vr 7 0 2), some (vr 7 0 3), some (vr 7 0 4), some (vr 7 0 5), some (vr 7 0 7), some (vr 7 0 8), some (vr 7 0 9), some (vi x10), some (vi x11), some (vi x12), none, none, some (vi (nI t)), none, some (vi x17), some (vi x18), some (vi (nI s)), some (vi x20), some (vi y0), some (vi (nI (x22 + if so = true then ch_ A.1 k else 0))), some (vi (nI (x23 + ch_ A.1 k))), some (vi (nI k)), some (vi (bI so)), some (vi (oI (((mds A.1 A.2.1.2.1 A.2.1.1).2 k).1 s)))] [vi (oI (ans A.1 (mds A.1 A.2.1.2.1 A.2.1.1) k s t))] O := by
  obtain ⟨b1, b2, b3, b4, b5, b6, b7, b8⟩ := hB
  obtain ⟨r0, r1, r2, r3, r4, r5⟩ := la.2.2.2.2 k hk
  have hth := ((lk.2 k hk).1 s (by omega)).1
  have go : ∀ v : Nat, ex 10 218 954 [some (vr 8 0 0), some (vr 6 0 0), none, some (vr 7 0 2), some (vr 7 0 3), some (vr 7 0 4), some (vr 7 0 5), some (vr 7 0 7), some (vr 7 0 8), some (vr 7 0 9), some (vi x10), some (vi x11), some (vi x12), none, none, some (vi (nI t)), none, some (vi x17), some (vi x18), some (vi (nI s)), some (vi x20), some (vi y0), none, some (vi (nI x23)), some (vi (nI k)), some (vi (bI so))] [vi (nI v), vi (nI x22)] O = ex 10 218 1008 [some (vr 8 0 0), some (vr 6 0 0), none, some (vr 7 0 2), some (vr 7 0 3), some (vr 7 0 4), some (vr 7 0 5), some (vr 7 0 7), some (vr 7 0 8), some (vr 7 0 9), some (vi x10), some (vi x11), some (vi x12), none, none, some (vi (nI t)), none, some (vi x17), some (vi x18), some (vi (nI s)), some (vi x20), some (vi y0), some (vi (nI (x22 + v))), some (vi (nI (x23 + ch_ A.1 k))), some (vi (nI k)), some (vi (bI so)), some (vi (oI (((mds A.1 A.2.1.2.1 A.2.1.1).2 k).1 s)))] [vi (oI (ans A.1 (mds A.1 A.2.1.2.1 A.2.1.1) k s t))] O := fun v => by
    rw [ans_v]
    have st := sL_law_954 9 O x10 x11 x12 (nI t) x17 x18 (nI s) x20 y0 (nI x23) (nI k) (bI so) (nI v) (nI x22)
    rw [pk_mul, pk_mul, nI_add, nI_add, nI_add, if_pos (ib_n (by omega) (by decide)), if_pos (ib_n (by omega) (by decide)), nI_clamp (by omega), nI_clamp (by omega), hth, r4, nI_add] at st
    cases e : ((mds A.1 A.2.1.2.1 A.2.1.1).2 k).1 s with
    | none =>
      rw [e, if_pos oI_lt0] at st
      exact st
    | some m =>
      have hm := (hw2.2 k).1 s m e
      have a1 := are_lt hT m
      have e0 : oI (some m) = nI m := rfl
      rw [e, e0, if_neg (oI_neg (by omega)), pk_mul, nI_add, if_pos (ib_n (by omega) (by decide)), nI_clamp (by omega), (la.2.2.1 m hm).2.2, q_bitv _ _ (by omega) (by omega)] at st
      exact st
  refine (sL_law_931 ..).trans ?_
  cases so with
  | false =>
    rw [if_pos (show bI false = nI 0 from rfl)]
    exact go 0
  | true =>
    rw [if_neg (by decide), pk_mul, nI_add, if_pos (ib_n (by omega) (by decide)), nI_clamp (by omega), r4]
    exact go (ch_ A.1 k)
theorem k_1008 {x10 x11 x12 x17 x18 x21 x22 x23 : Int32} {t s k : Nat} (hw : WA A) (hc : CI O A) (hB : LB A.1) (la : LA A.1 (O 7 0)) (lk : LK A O) (hk : k < nK A.1) (hs : s < nS A.1) (ht : t < nT A.1) : ex 10 218 1008 [some (vr 8 0 0), some (vr 6 0 0), none, some (vr 7 0 2), some (vr 7 0 3), some (vr 7 0 4), some (vr 7 0 5), some (vr 7 0 7), some (vr 7 0 8), some (vr 7 0 9), some (vi x10), some (vi x11), some (vi x12), none, none, some (vi (nI t)), none, some (vi x17), some (vi x18), some (vi (nI s)), some (vi (nI ((mds A.1 A.2.1.2.1 A.2.1.1).1 s))), some (vi x21), some (vi x22), some (vi x23), some (vi (nI k)), some (vi (bI (sam A.1 (mds A.1 A.2.1.2.1 A.2.1.1) k s))), some (vi (oI (((mds A.1 A.2.1.2.1 A.2.1.1).2 k).1 s)))] [vi (oI (ans A.1 (mds A.1 A.2.1.2.1 A.2.1.1) k s t))] O = ex 10 218 883 [some (vr 8 0 0), some (vr 6 0 0), none, some (vr 7 0 2), some (vr 7 0 3), some (vr 7 0 4), some (vr 7 0 5), some (vr 7 0 7), some (vr 7 0 8), some (vr 7 0 9), some (vi x10), some (vi x11), some (vi x12), none, none, some (vi (nI t)), none, some (vi x17), some (vi x18), some (vi (nI s)), some (vi (nI ((mds A.1 A.2.1.2.1 A.2.1.1).1 s))), some (vi x21), some (vi x22), some (vi x23), some (vi (nI (k + 1)))] [] O := by
  obtain ⟨b1, b2, b3, b4, b5, b6, b7, b8⟩ := hB
  have hT := hw.1
  obtain ⟨r0, r1, r2, r3, r4, r5⟩ := la.2.2.2.2 k hk
  obtain ⟨kk, k8, k9⟩ := lk.2 k hk
  have hn24 := hw.2.1.1
  have hwm := mds_wf (T := A.1) (f := A.2.1.2.1) A.2.1.1 (by omega)
  have hF := hwm.1 s
  have h6 : 2 ^ nM A.1 ≤ 2 ^ 6 := Nat.pow_le_pow_right (by decide) b4
  have hso := (hT.2.2.2.2.2.2.2.1 k).1
  have iv := iv_mds (T := A.1) (f := A.2.1.2.1) (k := k) A.2.1.1 (fun j hj => (hw.2.1.2.1 j hj).1)
  -- to 1065
  have st := sL_law_1008 9 O x10 x11 x12 (nI t) x17 x18 (nI s) (nI ((mds A.1 A.2.1.2.1 A.2.1.1).1 s)) x21 x22 x23 (nI k) (bI (sam A.1 (mds A.1 A.2.1.2.1 A.2.1.1) k s)) (oI (((mds A.1 A.2.1.2.1 A.2.1.1).2 k).1 s)) (oI (ans A.1 (mds A.1 A.2.1.2.1 A.2.1.1) k s t))
  rw [a_thinks hw hc hk hs] at st
  simp only [Option.bind_some] at st
  rw [if_pos trivial, a_against hw hc hk hs] at st
  simp only [Option.bind_some] at st
  rw [pk_mul, nI_add, nI_add, if_pos (ib_n (by omega) (by decide)), nI_clamp (by omega), (kk s (by omega)).2, if_pos rfl, a_same hw hc hk hs] at st
  simp only [Option.bind_some] at st
  have st : ex 10 218 1008 [some (vr 8 0 0), some (vr 6 0 0), none, some (vr 7 0 2), some (vr 7 0 3), some (vr 7 0 4), some (vr 7 0 5), some (vr 7 0 7), some (vr 7 0 8), some (vr 7 0 9), some (vi x10), some (vi x11), some (vi x12), none, none, some (vi (nI t)), none, some (vi x17), some (vi x18), some (vi (nI s)), some (vi (nI ((mds A.1 A.2.1.2.1 A.2.1.1).1 s))), some (vi x21), some (vi x22), some (vi x23), some (vi (nI k)), some (vi (bI (sam A.1 (mds A.1 A.2.1.2.1 A.2.1.1) k s))), some (vi (oI (((mds A.1 A.2.1.2.1 A.2.1.1).2 k).1 s)))] [vi (oI (ans A.1 (mds A.1 A.2.1.2.1 A.2.1.1) k s t))] O = ex 10 218 1065 [some (vr 8 0 0), some (vr 6 0 0), none, some (vr 7 0 2), some (vr 7 0 3), some (vr 7 0 4), some (vr 7 0 5), some (vr 7 0 7), some (vr 7 0 8), some (vr 7 0 9), some (vi x10), some (vi x11), some (vi x12), none, none, some (vi (nI t)), none, some (vi x17), some (vi x18), some (vi (nI s)), some (vi (nI ((mds A.1 A.2.1.2.1 A.2.1.1).1 s))), some (vi x21), some (vi x22), some (vi x23), some (vi (nI k)), none, some (vi (oI (((mds A.1 A.2.1.2.1 A.2.1.1).2 k).1 s))), some (vi (oI (ans A.1 (mds A.1 A.2.1.2.1 A.2.1.1) k s t)))] [vi (bI (sam A.1 (mds A.1 A.2.1.2.1 A.2.1.1) k s)), vi (bI (sam A.1 (mds A.1 A.2.1.2.1 A.2.1.1) k s))] O := by
    refine st.trans ?_
    cases sam A.1 (mds A.1 A.2.1.2.1 A.2.1.1) k s with
    | false => rw [if_pos (show bI false = nI 0 from rfl)]; rfl
    | true => rw [if_neg (by decide)]; rfl
  refine st.trans ((sL_law_1065 ..).trans ?_)
  rw [if_pos rfl, a_fits hw hc hk hs]
  simp only [Option.bind_some]
  rw [pk_mul, nI_add, if_pos (ib_n (by omega) (by decide)), nI_clamp (by omega), r5, q_and, if_pos rfl, a_fled hw hc hk]
  simp only [Option.bind_some]
  rw [pk_mul, nI_add, if_pos (ib_n (by omega) (by decide)), nI_clamp (by omega), k9, if_pos rfl, a_answer hw hc hk hs ht]
  simp only [Option.bind_some]
  rw [if_pos trivial, if_pos (ib_n (by omega) (by decide)), nI_clamp (by omega), r0, nI_add]
  by_cases c3 : so_ A.1 k = 3
  · rw [if_pos (by rw [c3])]
  · rw [if_neg (by rw [nI_eq (by omega) (by decide)]; exact c3)]
    cases e : ((mds A.1 A.2.1.2.1 A.2.1.1).2 k).1 s with
    | none => rw [if_pos oI_lt0]
    | some m =>
      have hm := (hwm.2 k).1 s m e
      have e0 : oI (some m) = nI m := rfl
      rw [e0, if_neg (oI_neg (by omega)), if_pos (ib_n (by omega) (by decide)), k9]
      cases e2 : ((mds A.1 A.2.1.2.1 A.2.1.1).2 k).2.2.2 with
      | none =>
        have hb := (iv.2 c3).2 e2 s m e
        rw [if_pos oI_lt0, q_bitv _ _ (by omega) (by omega), hb, if_neg (by decide)]
      | some j =>
        have hj := (hwm.2 k).2.2.2 j e2
        rw [if_neg (show ¬ oI (some j) < nI 0 from oI_neg (by omega))]
end
