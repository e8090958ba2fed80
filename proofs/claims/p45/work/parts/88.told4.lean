/-! THE LAW TELLS ITS TEXT: kinds. -/
section
theorem wl_plain : wl 482854660462 8 = w_plain := by decide +kernel
theorem wl_last : wl 1818325876 8 = w_last := by decide +kernel
theorem wl_careful : wl 27973166649734508 8 = w_careful := by decide +kernel
theorem wl_proud : wl 482956244324 8 = w_proud := by decide +kernel
theorem wl_chance : wl 9116499217113957 8 = 32 :: w_chance := by decide +kernel
theorem wl_unlike : wl 9136316380441445 8 = 32 :: w_unlike := by decide +kernel
theorem wl_fears : wl 35624159638131 8 = 32 :: w_fears := by decide +kernel
theorem wl_sees : wl 139374978419 8 = 32 :: w_sees := by decide +kernel
theorem txN_len (v : Nat) : (txN v).length = 2 := rfl
theorem TQ.ap {O : Mem_} {a b : List Nat} (h : TQ O a) (e : a = b) : TQ O b := e ▸ h
theorem c855 {O : Mem_} {bs : List Nat} {n k se : Nat} (hk : k < 4) (hs : se = 255 ∨ se < 16) (hr : O 7 0 4 (6 * k + 1) = nI se) (h : TQ O bs) (hl : bs.length ≤ 380) : ∃ O', ex 10 129 855 [some (vr 6 0 0), some (vr 8 0 0), some (vi (nI 0)), none, some (vr 7 0 2), none, some (vr 7 0 4), some (vr 7 0 5), some (vr 7 0 6), none, none, some (vi (nI n)), some (vi (nI k)), none, some (vi (nI (6 * k)))] [] O = ex 10 129 507 [some (vr 6 0 0), some (vr 8 0 0), some (vi (nI 0)), none, some (vr 7 0 2), none, some (vr 7 0 4), some (vr 7 0 5), some (vr 7 0 6), none, none, some (vi (nI n)), some (vi (nI (k + 1)))] [] O' ∧ TQ O' (bs ++ lnK3 se) ∧ FrW O O' := by
  have st := sL_told_855 9 O (nI 0) (nI n) (nI k) (nI (6 * k))
  rw [nI_add, if_pos (ib_n (by omega) (by decide)), nI_clamp (by omega), hr] at st
  by_cases e : se = 255
  · rw [if_pos (by rw [e])] at st
    obtain ⟨O2, e2, t2, f2⟩ := q_put (c := 59) h (by decide) (by omega)
    have s2 := sL_told_890 9 O (nI 0) (nI n) (nI k)
    simp only [e2, Option.bind_some, nI_add] at s2
    refine ⟨O2, st.trans s2, t2.ap ?_, f2⟩
    unfold lnK3
    rw [if_pos e, List.nil_append]
  · have h16 : se < 16 := by omega
    rw [if_neg (by rw [nI_eq (by omega) (by decide)]; exact e)] at st
    have ws : (32 :: w_sees).length = 5 := rfl
    have hx := txL_16 se h16
    obtain ⟨O2, e2, t2, f2⟩ := q_word wl_sees h (by omega)
    obtain ⟨O3, e3, t3, f3⟩ := q_letters (a := se) (by omega) t2 (by rw [List.length_append]; omega)
    obtain ⟨O4, e4, t4, f4⟩ := q_put (c := 59) t3 (by decide) (by rw [List.length_append, List.length_append]; omega)
    simp only [e2, Option.bind_some] at st
    rw [if_pos (ib_n (by omega) (by decide)), f2.2 4 (by decide), hr] at st
    simp only [e3, Option.bind_some] at st
    have s2 := sL_told_890 9 O3 (nI 0) (nI n) (nI k)
    simp only [e4, Option.bind_some, nI_add] at s2
    refine ⟨O4, st.trans s2, t4.ap ?_, (f2.trans f3).trans f4⟩
    rw [show lnK3 se = (if se = 255 then [] else (32 :: w_sees) ++ txL se) ++ [59] from rfl, if_neg e]
    simp only [List.append_assoc]
theorem c823 {O : Mem_} {bs : List Nat} {n k se : Nat} {fe : Option Nat} (hk : k < 4) (hs : se = 255 ∨ se < 16) (hf : ∀ t, fe = some t → t < 10) (hr : O 7 0 4 (6 * k + 1) = nI se) (hr2 : O 7 0 4 (6 * k + 2) = oI fe) (h : TQ O bs) (hl : bs.length ≤ 372) : ∃ O', ex 10 129 823 [some (vr 6 0 0), some (vr 8 0 0), some (vi (nI 0)), none, some (vr 7 0 2), none, some (vr 7 0 4), some (vr 7 0 5), some (vr 7 0 6), none, none, some (vi (nI n)), some (vi (nI k)), none, some (vi (nI (6 * k)))] [] O = ex 10 129 507 [some (vr 6 0 0), some (vr 8 0 0), some (vi (nI 0)), none, some (vr 7 0 2), none, some (vr 7 0 4), some (vr 7 0 5), some (vr 7 0 6), none, none, some (vi (nI n)), some (vi (nI (k + 1)))] [] O' ∧ TQ O' (bs ++ lnK2 fe se) ∧ FrW O O' := by
  have st := sL_told_823 9 O (nI 0) (nI n) (nI k) (nI (6 * k))
  rw [nI_add, if_pos (ib_n (by omega) (by decide)), nI_clamp (by omega), hr2] at st
  cases fe with
  | none =>
    rw [if_pos (by decide)] at st
    obtain ⟨O', e1, t1, f1⟩ := c855 (n := n) hk hs hr h (by omega)
    exact ⟨O', st.trans e1, t1, f1⟩
  | some t =>
    have ht := hf t rfl
    rw [if_neg (by simp only [oI]; rw [nI_ltI (by omega) (by omega)]; omega)] at st
    have ws : (32 :: w_fears).length = 6 := rfl
    obtain ⟨O2, e2, t2, f2⟩ := q_word wl_fears h (by omega)
    obtain ⟨O3, e3, t3, f3⟩ := q_number (v := t) ht t2 (by rw [List.length_append]; omega)
    simp only [e2, Option.bind_some] at st
    rw [if_pos (ib_n (by omega) (by decide)), f2.2 4 (by decide), hr2] at st
    simp only [oI, e3, Option.bind_some] at st
    obtain ⟨O', e4, t4, f4⟩ := c855 (n := n) hk hs (by rw [(f2.trans f3).2 4 (by decide)]; exact hr) t3 (by rw [List.length_append, List.length_append, txN_len]; omega)
    refine ⟨O', st.trans e4, t4.ap ?_, (f2.trans f3).trans f4⟩
    show bs ++ 32 :: w_fears ++ txN t ++ lnK3 se = bs ++ (((32 :: w_fears) ++ txN t) ++ lnK3 se)
    simp only [List.append_assoc]
theorem c778 {O : Mem_} {bs w : List Nat} {v : Int64} {n k se ch : Nat} {fe : Option Nat} {ul : Bool} (hk : k < 4) (hs : se = 255 ∨ se < 16) (hf : ∀ t, fe = some t → t < 10) (hc : ch < 10) (hw : wl v 8 = w) (hwl : w.length ≤ 7) (hr : O 7 0 4 (6 * k + 1) = nI se) (hr2 : O 7 0 4 (6 * k + 2) = oI fe) (hr3 : O 7 0 4 (6 * k + 3) = bI ul) (hr4 : O 7 0 4 (6 * k + 4) = nI ch) (h : TQ O bs) (hl : bs.length ≤ 345) : ∃ O', ex 10 129 778 [some (vr 6 0 0), some (vr 8 0 0), some (vi (nI 0)), none, some (vr 7 0 2), none, some (vr 7 0 4), some (vr 7 0 5), some (vr 7 0 6), none, none, some (vi (nI n)), some (vi (nI k)), none, some (vi (nI (6 * k)))] [vl v, vr 7 0 6, vr 6 0 0] O = ex 10 129 507 [some (vr 6 0 0), some (vr 8 0 0), some (vi (nI 0)), none, some (vr 7 0 2), none, some (vr 7 0 4), some (vr 7 0 5), some (vr 7 0 6), none, none, some (vi (nI n)), some (vi (nI (k + 1)))] [] O' ∧ TQ O' (bs ++ (w ++ ((32 :: w_chance) ++ (txN ch ++ lnK1 ul fe se)))) ∧ FrW O O' := by
  have st := sL_told_778 9 O (nI 0) (nI n) (nI k) (nI (6 * k)) v
  have wc : (32 :: w_chance).length = 7 := rfl
  have wu : (32 :: w_unlike).length = 7 := rfl
  obtain ⟨O1, e1, t1, f1⟩ := q_word hw h (by omega)
  obtain ⟨O2, e2, t2, f2⟩ := q_word wl_chance t1 (by rw [List.length_append]; omega)
  obtain ⟨O3, e3, t3, f3⟩ := q_number (v := ch) hc t2 (by rw [List.length_append, List.length_append]; omega)
  have f12 := f1.trans f2
  have f13 := f12.trans f3
  simp only [e1, e2, Option.bind_some] at st
  rw [nI_add, if_pos (ib_n (by omega) (by decide)), nI_clamp (by omega), f12.2 4 (by decide), hr4] at st
  simp only [e3, Option.bind_some] at st
  rw [nI_add, if_pos (ib_n (by omega) (by decide)), nI_clamp (by omega), f13.2 4 (by decide), hr3] at st
  have r4 : ∀ {O' : Mem_}, O' 7 0 4 = O 7 0 4 → O' 7 0 4 (6 * k + 1) = nI se ∧ O' 7 0 4 (6 * k + 2) = oI fe := fun e => by rw [e]; exact ⟨hr, hr2⟩
  cases ul with
  | true =>
    rw [if_pos (show bI true = nI 1 from rfl)] at st
    obtain ⟨O4, e4, t4, f4⟩ := q_word wl_unlike t3 (by rw [List.length_append, List.length_append, List.length_append, txN_len]; omega)
    simp only [e4, Option.bind_some] at st
    have f14 := f13.trans f4
    obtain ⟨O5, e5, t5, f5⟩ := c823 (n := n) hk hs hf (r4 (f14.2 4 (by decide))).1 (r4 (f14.2 4 (by decide))).2 t4 (by rw [List.length_append, List.length_append, List.length_append, List.length_append, txN_len]; omega)
    refine ⟨O5, st.trans e5, t5.ap ?_, f14.trans f5⟩
    show _ = bs ++ (w ++ ((32 :: w_chance) ++ (txN ch ++ ((32 :: w_unlike) ++ lnK2 fe se))))
    simp only [List.append_assoc]
  | false =>
    rw [if_neg (by decide)] at st
    obtain ⟨O5, e5, t5, f5⟩ := c823 (n := n) hk hs hf (r4 (f13.2 4 (by decide))).1 (r4 (f13.2 4 (by decide))).2 t3 (by rw [List.length_append, List.length_append, List.length_append, txN_len]; omega)
    refine ⟨O5, st.trans e5, t5.ap ?_, f13.trans f5⟩
    show _ = bs ++ (w ++ ((32 :: w_chance) ++ (txN ch ++ ([] ++ lnK2 fe se))))
    simp only [List.append_assoc, List.nil_append]
/-- meanings that a kind can think -/
def isC (M : List (Nat × Nat)) (se m : Nat) : Bool := dn ((M.getD m (0, 0)).1 ||| (M.getD m (0, 0)).2) se == 0
def canL (M : List (Nat × Nat)) (se : Nat) : Nat := ms M.length (isC M se)
theorem isC_i (M : List (Nat × Nat)) (se m : Nat) : isC M se m = decide (dn ((M.getD m (0, 0)).1 ||| (M.getD m (0, 0)).2) se = 0) := rfl
/-- the cells of the k-th kind alone are changed -/
def U4 (k : Nat) (O O' : Mem_) : Prop := (∀ c, c ≠ 7 → O' c = O c) ∧ (∀ p, p ≠ 4 → O' 7 0 p = O 7 0 p) ∧ ∀ j, (j < 6 * k ∨ 6 * k + 6 ≤ j) → O' 7 0 4 j = O 7 0 4 j
theorem U4.rf {k : Nat} {O : Mem_} : U4 k O O := ⟨fun _ _ => rfl, fun _ _ => rfl, fun _ _ => rfl⟩
theorem U4.u {k j : Nat} {O O' : Mem_} {v : Int32} (h : U4 k O O') (hj : 6 * k ≤ j ∧ j < 6 * k + 6) : U4 k O (up O' 7 0 4 j v) := ⟨fun c z => (funext fun q => up_row (Or.inl z)).trans (h.1 c z), fun p z => (funext fun q => up_ne (by omega)).trans (h.2.1 p z), fun i hi => (up_ne (by omega)).trans (h.2.2 i hi)⟩
/-- a kind's cells -/
def KR (k so se : Nat) (fe : Option Nat) (ul : Bool) (ch ca : Nat) (O : Mem_) : Prop := O 7 0 4 (6 * k) = nI so ∧ O 7 0 4 (6 * k + 1) = nI se ∧ O 7 0 4 (6 * k + 2) = oI fe ∧ O 7 0 4 (6 * k + 3) = bI ul ∧ O 7 0 4 (6 * k + 4) = nI ch ∧ O 7 0 4 (6 * k + 5) = nI ca
theorem c665 {a b n k so se ch : Nat} {fe : Option Nat} {ul : Bool} {l : List Nat} {M : List (Nat × Nat)} {O : Mem_} (hk : k < 4) (hb : b ≤ 6) (hs : se = 255 ∨ se < 16) (h2 : R2 a b l M (O 7 0)) (h5 : O 7 0 5 1 = nI b) (g : KR k so se fe ul ch 0 O) : ∃ O1, U4 k O O1 ∧ KR k so se fe ul ch (canL M se) O1 ∧ ex 10 129 665 [some (vr 6 0 0), some (vr 8 0 0), some (vi (nI 0)), none, some (vr 7 0 2), none, some (vr 7 0 4), some (vr 7 0 5), some (vr 7 0 6), none, none, some (vi (nI n)), some (vi (nI k)), none, some (vi (nI (6 * k))), some (vi (nI 0))] [] O = ex 10 129 665 [some (vr 6 0 0), some (vr 8 0 0), some (vi (nI 0)), none, some (vr 7 0 2), none, some (vr 7 0 4), some (vr 7 0 5), some (vr 7 0 6), none, none, some (vi (nI n)), some (vi (nI k)), none, some (vi (nI (6 * k))), some (vi (nI b))] [] O1 := by
  refine Exists.elim (lp_i (fun t (O : Mem_) => ex 10 129 665 [some (vr 6 0 0), some (vr 8 0 0), some (vi (nI 0)), none, some (vr 7 0 2), none, some (vr 7 0 4), some (vr 7 0 5), some (vr 7 0 6), none, none, some (vi (nI n)), some (vi (nI k)), none, some (vi (nI (6 * k))), some (vi (nI t))] [] O) (fun t O' => U4 k O O' ∧ KR k so se fe ul ch (ms t (isC M se)) O') b ?_ O ⟨U4.rf, g⟩) ?_
  · intro t O' ht ⟨u, f0, f1, f2, f3, f4, f5⟩
    have hm := (h2.of (u.2.1 1 (by decide)) (u.2.1 2 (by decide))).2.2.2.2.2 t ht
    have hq := h2.2.2.2.2.1 (M.getD t (0, 0)) (by rw [List.getD_eq_getElem?_getD, List.getElem?_eq_getElem (by rw [h2.2.2.2.1]; exact ht)]; exact List.getElem_mem _)
    have h50 : O' 7 0 5 1 = nI b := by rw [u.2.1 5 (by decide)]; exact h5
    have hms : ms t (isC M se) < 2 ^ t := ms_lt _ t
    have h2t : 2 ^ t ≤ 2 ^ 6 := Nat.pow_le_pow_right (by decide) (by omega)
    have hor : (M.getD t (0, 0)).1 ||| (M.getD t (0, 0)).2 < 2 ^ 4 := Nat.or_lt_two_pow hq.1 hq.2.1
    have st := sL_told_665 9 O' (nI 0) (nI n) (nI k) (nI (6 * k)) (nI t)
    have i1 : (nI 1).toNatClampNeg = 1 := by decide
    rw [if_pos (by decide), i1, h50, if_pos (by rw [nI_ltI (by omega) (by omega)]; exact ht), pk_mul, nI_add, nI_add, nI_add, if_pos (ib_n (by omega) (by decide)), if_pos (ib_n (by omega) (by decide)), if_pos (ib_n (by omega) (by decide)), if_pos (ib_n (by omega) (by decide)), nI_clamp (by omega), nI_clamp (by omega), nI_clamp (by omega), nI_clamp (by omega), hm.1, hm.2.1, f1, f5, q_or, q_dn] at st
    have d1 : (nI (dn ((M.getD t (0, 0)).1 ||| (M.getD t (0, 0)).2) se) = nI 0) ↔ (dn ((M.getD t (0, 0)).1 ||| (M.getD t (0, 0)).2) se = 0) := by
      rw [nI_eq (Nat.lt_of_le_of_lt (dn_le _ _) (by omega)) (by decide)]
    have fin : ∀ x, ex 10 129 665 [some (vr 6 0 0), some (vr 8 0 0), some (vi (nI 0)), none, some (vr 7 0 2), none, some (vr 7 0 4), some (vr 7 0 5), some (vr 7 0 6), none, none, some (vi (nI n)), some (vi (nI k)), none, some (vi (nI (6 * k))), some (vi (nI t))] [] O' = ex 10 129 665 [some (vr 6 0 0), some (vr 8 0 0), some (vi (nI 0)), none, some (vr 7 0 2), none, some (vr 7 0 4), some (vr 7 0 5), some (vr 7 0 6), none, none, some (vi (nI n)), some (vi (nI k)), none, some (vi (nI (6 * k))), some (vi (nI (t + 1)))] [] (up O' 7 0 4 (6 * k + 5) (nI x)) → x = ms (t + 1) (isC M se) → ∃ a', ex 10 129 665 [some (vr 6 0 0), some (vr 8 0 0), some (vi (nI 0)), none, some (vr 7 0 2), none, some (vr 7 0 4), some (vr 7 0 5), some (vr 7 0 6), none, none, some (vi (nI n)), some (vi (nI k)), none, some (vi (nI (6 * k))), some (vi (nI t))] [] O' = ex 10 129 665 [some (vr 6 0 0), some (vr 8 0 0), some (vi (nI 0)), none, some (vr 7 0 2), none, some (vr 7 0 4), some (vr 7 0 5), some (vr 7 0 6), none, none, some (vi (nI n)), some (vi (nI k)), none, some (vi (nI (6 * k))), some (vi (nI (t + 1)))] [] a' ∧ U4 k O a' ∧ KR k so se fe ul ch (ms (t + 1) (isC M se)) a' := fun x e1 e2 => by
      refine ⟨_, e1, u.u (by omega), ?_, ?_, ?_, ?_, ?_, ?_⟩
      · rw [up_ne (by omega)]; exact f0
      · rw [up_ne (by omega)]; exact f1
      · rw [up_ne (by omega)]; exact f2
      · rw [up_ne (by omega)]; exact f3
      · rw [up_ne (by omega)]; exact f4
      · rw [up_eq, e2]
    by_cases c1 : dn ((M.getD t (0, 0)).1 ||| (M.getD t (0, 0)).2) se = 0
    · rw [if_pos (d1.mpr c1), if_pos (ib_n (by omega) (by decide)), q_shl t (by omega), q_or, nI_add] at st
      exact fin _ st (by rw [ms_s, isC_i, decide_eq_true c1]; first | rfl | done)
    · rw [if_neg (fun z => c1 (d1.mp z)), if_pos (ib_n (by omega) (by decide)), q_or, nI_add] at st
      exact fin _ st (by rw [ms_s, isC_i, decide_eq_false c1, Nat.or_zero]; rfl)
  · rintro O' ⟨e, u, f⟩
    refine ⟨O', u, ?_, e⟩
    unfold canL
    rw [h2.2.2.2.1]
    exact f
end
