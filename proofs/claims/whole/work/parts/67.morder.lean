/-! THE MODEL'S ORDER. -/
section
/-- what taken leaves; what order leaves -/
def NO (O O' : Mem_) : Prop := Ro 7 0 O O' ∧ ∀ p q, ¬ (p = 28 ∧ 70 ≤ q) → p ≠ 31 → O' 7 0 p q = O 7 0 p q
def N2 (O O' : Mem_) : Prop := Ro 7 0 O O' ∧ ∀ p q, ¬ (p = 28 ∧ 70 ≤ q) → p ≠ 31 → p ≠ 32 → p ≠ 33 → O' 7 0 p q = O 7 0 p q
theorem NO.rfl {O : Mem_} : NO O O := ⟨Ro.rfl, fun _ _ _ _ => Eq.refl _⟩
theorem NO.trans {O O' O2 : Mem_} (h : NO O O') (g : NO O' O2) : NO O O2 := ⟨h.1.trans g.1, fun p q a b => (g.2 p q a b).trans (h.2 p q a b)⟩
theorem NO.nr {O O' : Mem_} (h : NR O O') : NO O O' := ⟨h.1, fun p q a b => h.2 p q (fun z => a ⟨z.1, z.2.1⟩) b⟩
theorem NO.nx {O O' : Mem_} {a l : Nat} (h : NX a l O O') (ha : 70 ≤ a) : NO O O' := ⟨h.1, fun p q z _ => h.2 p q (fun y => z ⟨y.1, by omega⟩)⟩
theorem N2.rfl {O : Mem_} : N2 O O := ⟨Ro.rfl, fun _ _ _ _ _ _ => Eq.refl _⟩
theorem N2.trans {O O' O2 : Mem_} (h : N2 O O') (g : N2 O' O2) : N2 O O2 := ⟨h.1.trans g.1, fun p q a b c e => (g.2 p q a b c e).trans (h.2 p q a b c e)⟩
theorem N2.no {O O' : Mem_} (h : NO O O') : N2 O O' := ⟨h.1, fun p q a b _ _ => h.2 p q a b⟩
theorem N2.up {p j : Nat} {v : Int32} {O : Mem_} (hp : p = 32 ∨ p = 33) : N2 O (up O 7 0 p j v) := ⟨Ro.rfl.up, fun p' q _ _ b c => up_ne (by omega)⟩
/-- a list lies in a part -/
def Ls (O : Mem_) (p i : Nat) (l : List Nat) : Prop := ∀ j, j < l.length → O 7 0 p (i + j) = nI (l.getD j 0)
theorem Ls.cons {O : Mem_} {p i x : Nat} {l : List Nat} : Ls O p i (x :: l) ↔ O 7 0 p i = nI x ∧ Ls O p (i + 1) l := by
  constructor
  · intro h
    refine ⟨h 0 (by simp), fun j hj => ?_⟩
    have := h (j + 1) (by simp; exact hj)
    rw [show i + (j + 1) = i + 1 + j by omega] at this
    exact this
  · rintro ⟨h1, h2⟩ j hj
    cases j with
    | zero => exact h1
    | succ j =>
      have := h2 j (by simpa using hj)
      rw [show i + (j + 1) = i + 1 + j by omega]
      exact this
theorem Ls.of {O O' : Mem_} {p i : Nat} {l : List Nat} (h : Ls O p i l) (e : ∀ j, j < l.length → O' 7 0 p (i + j) = O 7 0 p (i + j)) : Ls O' p i l := fun j hj => (e j hj).trans (h j hj)
section
variable {T : Td_} {K : Nat}
theorem MT.no {O O' : Mem_} (h : NO O O') (g : MT (O 7 0) T) : MT (O' 7 0) T := g.of fun p q a b _ _ => h.2 p q (by omega) b
theorem MT.n2 {O O' : Mem_} (h : N2 O O') (g : MT (O 7 0) T) : MT (O' 7 0) T := g.of fun p q a b c e => h.2 p q (by omega) b c e
theorem cst_le : ∀ (l : List Nat) {M : Md_} {p : Nat × Md_}, cst T K l M = some p → p.1 ≤ 3 * l.length
  | [], M, p, h => by cases h; exact Nat.zero_le _
  | s :: l, M, p, h => by
    have h : ((fewest T K s 3 M).bind fun p => (cst T K l (aft T s p.2 M)).map fun q => (p.1 + q.1, q.2)) = some p := h
    obtain ⟨a, h1, h2⟩ := Option.bind_eq_some_iff.mp h
    obtain ⟨q, h3, rfl⟩ := Option.map_eq_some_iff.mp h2
    have := cst_le l h3
    have a1 := (fewest_le (n := a.1) (row := a.2) h1).1
    rw [List.length_cons]
    show a.1 + q.1 ≤ _
    omega
theorem n_taken (d : Nat) (hK : K < 2 ^ 31) (hT : WT T) {O : Mem_} {way : List Nat} (hl : way.length = nS T) (hw : ∀ t, t ∈ way → t < nS T) (h : MT (O 7 0) T) (hW : Ls O 32 0 way) : ∃ O', ex (d + 9) 185 0 [some (vr 7 0 0), some (vi (nI K))] [] O = some (oI ((cst T K way (md0 T)).map Prod.fst), O') ∧ NO O O' := by
  have h4 := hT.2.2.1
  obtain ⟨O1, e1, x1, m1⟩ := n_wakes (O := O) (T := T) (d + 6) (b := 140) (by decide) hT
  have loop : ∀ (l : List Nat) (i sum : Nat) (O : Mem_) (M : Md_), i + l.length = nS T → (∀ t, t ∈ l → t < nS T) → MT (O 7 0) T → NM (O 7 0) 140 T M → WMd T M → Ls O 32 i l → sum ≤ 3 * i → ∃ O', ex (d + 9) 185 11 [some (vr 7 0 0), some (vi (nI K)), some (vi (nI sum)), some (vi (nI i))] [] O = some (oI ((cst T K l M).map fun p => sum + p.1), O') ∧ NO O O' := by
    intro l
    induction l with
    | nil =>
      intro i sum O M hi _ h _ _ _ _
      rw [List.length_nil, Nat.add_zero] at hi
      refine ⟨O, (sX7_taken_11 ..).trans ?_, NO.rfl⟩
      rw [h.1.2.2.1, if_neg (nI_nlt (by omega) (by omega))]
      rfl
    | cons s l ih =>
      intro i sum O M hi ht h hm hw hL hsum
      rw [Ls.cons] at hL
      rw [List.length_cons] at hi
      have hs := ht s List.mem_cons_self
      obtain ⟨O1, e1, x1, m1⟩ := n_fewest (T := T) (O := O) d (K := K) (s := s) (most := 3) (M0 := M) hK hs (by decide) hT hw h hm
      have st := sX7_taken_11 (d + 8) O (nI K) (nI sum) (nI i)
      rw [h.1.2.2.1, if_pos (nI_lt (by omega) (by omega)), if_pos (ib_n (by omega) (by decide)), nI_clamp (by omega), hL.1, e1] at st
      simp only [Option.bind_some] at st
      cases hq : fewest T K s 3 M with
      | none =>
        rw [hq] at st
        have : cst T K (s :: l) M = none := by
          show ((fewest T K s 3 M).bind _) = _
          rw [hq]; rfl
        rw [this]
        exact ⟨O1, st.trans (if_pos rfl), NO.nr x1⟩
      | some p =>
        rw [hq] at st
        have a1 := (fewest_le (n := p.1) (row := p.2) hq).1
        obtain ⟨b1, b2⟩ := m1 p.1 p.2 hq
        rw [show oI (Option.map Prod.fst (some p)) = nI p.1 from rfl, if_neg (oI_none (by omega))] at st
        obtain ⟨O2, e2, x2, m2⟩ := n_copies (O := O1) (T := T) (d + 7) (b := 140) (a := 70) (by decide) (by decide) (by decide) hT b2
        rw [e2] at st
        simp only [Option.bind_some] at st
        rw [nI_add, nI_add] at st
        have n2 := (NO.nr x1).trans (NO.nx x2 (by decide))
        obtain ⟨O3, e3, x3⟩ := ih (i + 1) (sum + p.1) O2 (aft T s p.2 M) (by omega) (fun q hq => ht q (List.mem_cons_of_mem _ hq)) (MT.no n2 h) m2 (aft_wf p.2 hw) (hL.2.of fun j _ => n2.2 _ _ (by omega) (by decide)) (by omega)
        refine ⟨O3, (st.trans e3).trans ?_, n2.trans x3⟩
        have : cst T K (s :: l) M = (cst T K l (aft T s p.2 M)).map fun q => (p.1 + q.1, q.2) := by
          show ((fewest T K s 3 M).bind _) = _
          rw [hq]; rfl
        rw [this, Option.map_map]
        have : (fun q : Nat × Md_ => sum + p.1 + q.1) = (fun p => sum + p.1) ∘ fun q : Nat × Md_ => (p.1 + q.1, q.2) := funext fun q => by simp [Nat.add_assoc]
        rw [this]
  have n1 := NO.nx x1 (by decide)
  obtain ⟨O2, e2, x2⟩ := loop way 0 0 O1 (md0 T) (by omega) hw (MT.no n1 h) m1 md0_wf (hW.of fun j _ => n1.2 _ _ (by omega) (by decide)) (Nat.le_refl _)
  refine ⟨O2, ?_, n1.trans x2⟩
  rw [sX7_taken_0, e1]
  refine e2.trans ?_
  have : (fun p : Nat × Md_ => 0 + p.1) = Prod.fst := funext fun p => Nat.zero_add _
  rw [this]
theorem cnt_p {t : Nat} (ht : t < 4) : cnt (2 ^ t) 16 = 1 := by
  rcases (by omega : t = 0 ∨ t = 1 ∨ t = 2 ∨ t = 3) with rfl | rfl | rfl | rfl <;> rfl
theorem n_areUnlike (d : Nat) (hT : WT T) {O : Mem_} {way : List Nat} (hl : way.length = nS T) (hw : ∀ t, t ∈ way → t < nS T) (h : MT (O 7 0) T) (hW : Ls O 32 0 way) : ex (d + 2) 186 0 [some (vr 7 0 0)] [] O = some (bI (decide way.Nodup), O) := by
  have h4 := hT.2.2.1
  have loop : ∀ (l ρ : List Nat) (U : Nat), ρ.length + l.length = nS T → (∀ t, t ∈ l → t < nS T) → Ls O 32 ρ.length l → U < 16 → (∀ t, t < 4 → U.testBit t = decide (t ∈ ρ)) → cnt U 16 ≤ ρ.length → (cnt U 16 = ρ.length ↔ ρ.Nodup) → ex (d + 2) 186 4 [some (vr 7 0 0), some (vi (nI U)), some (vi (nI ρ.length))] [] O = some (bI (decide (ρ ++ l).Nodup), O) := by
    intro l
    induction l with
    | nil =>
      intro ρ U hi _ _ hU _ hle hiff
      rw [List.length_nil, Nat.add_zero] at hi
      refine (sX7_areUnlike_4 ..).trans ?_
      rw [h.1.2.2.1, if_neg (nI_nlt (by omega) (by omega)), m_countOf d O (by omega)]
      simp only [Option.bind_some]
      rw [h.1.2.2.1, List.append_nil]
      by_cases z : ρ.Nodup
      · rw [if_pos (by rw [hiff.mpr z, hi]), decide_eq_true z]; rfl
      · rw [if_neg (by rw [nI_eq (by omega) (by omega), ← hi]; exact fun e => z (hiff.mp e)), decide_eq_false z]; rfl
    | cons s l ih =>
      intro ρ U hi ht hL hU hb hle hiff
      rw [Ls.cons] at hL
      rw [List.length_cons] at hi
      have hs := ht s List.mem_cons_self
      refine (sX7_areUnlike_4 ..).trans ?_
      have hp : (2:Nat) ^ s < 2 ^ 4 := Nat.pow_lt_pow_right (by decide) (by omega)
      rw [h.1.2.2.1, if_pos (nI_lt (by omega) (by omega)), if_pos (ib_n (by omega) (by decide)), nI_clamp (by omega), hL.1, q_shl _ (by omega), q_or, nI_add]
      have hlen : (ρ ++ [s]).length = ρ.length + 1 := by rw [List.length_append, List.length_singleton]
      have hnd : (ρ ++ [s]).Nodup ↔ ρ.Nodup ∧ s ∉ ρ := by
        rw [List.nodup_append]
        constructor
        · exact fun ⟨a, _, c⟩ => ⟨a, fun hm => c s hm s (List.mem_singleton.mpr rfl) rfl⟩
        · exact fun ⟨a, c⟩ => ⟨a, by simp, fun x hx y hy e => c (by rw [← List.mem_singleton.mp hy, ← e]; exact hx)⟩
      have hcn : cnt (U ||| 2 ^ s) 16 = if s ∈ ρ then cnt U 16 else cnt U 16 + 1 := by
        by_cases z : s ∈ ρ
        · rw [if_pos z]
          congr 1
          apply Nat.eq_of_testBit_eq
          intro i
          rw [Nat.testBit_or, Nat.testBit_two_pow]
          by_cases y : s = i
          · rw [← y, hb s (by omega), decide_eq_true z]; rfl
          · rw [decide_eq_false y, Bool.or_false]
        · rw [if_neg z, cnt_or, cnt_p (by omega)]
          apply Nat.eq_of_testBit_eq
          intro i
          rw [Nat.testBit_and, Nat.testBit_two_pow, Nat.zero_testBit]
          by_cases y : s = i
          · rw [← y, hb s (by omega), decide_eq_false z]; rfl
          · rw [decide_eq_false y, Bool.and_false]
      have := ih (ρ ++ [s]) (U ||| 2 ^ s) (by omega) (fun q hq => ht q (List.mem_cons_of_mem _ hq)) (by rw [hlen]; exact hL.2) (Nat.or_lt_two_pow (n := 4) hU hp) (fun t ht => by
        rw [Nat.testBit_or, hb t ht, Nat.testBit_two_pow, Bool.eq_iff_iff]
        simp only [Bool.or_eq_true, decide_eq_true_eq, List.mem_append, List.mem_singleton]
        exact or_congr_right ⟨fun h => h.symm, fun h => h.symm⟩) (by rw [hcn, hlen]; split <;> omega) (by
        rw [hcn, hlen, hnd]
        by_cases z : s ∈ ρ
        · rw [if_pos z]; constructor
          · intro e; omega
          · exact fun a => absurd z a.2
        · rw [if_neg z, Nat.add_right_cancel_iff, hiff]
          exact ⟨fun a => ⟨a, z⟩, fun a => a.1⟩)
      rw [hlen, List.append_assoc] at this
      exact this
  rw [sX7_areUnlike_0]
  exact loop way [] 0 (by rw [List.length_nil]; omega) hw hW (by decide) (fun t _ => by simp) (by decide) (by simp; decide)
def val (n : Nat) (ρ : List Nat) : Nat := ρ.foldl (fun v t => v * n + t) 0
theorem val_app {n t : Nat} {ρ : List Nat} : val n (ρ ++ [t]) = val n ρ * n + t := by unfold val; rw [List.foldl_append]; rfl
theorem val_lt {n : Nat} : ∀ (k : Nat) (ρ : List Nat), ρ.length = k → (∀ t, t ∈ ρ → t < n) → val n ρ < n ^ k
  | 0, ρ, hl, _ => by rw [List.length_eq_zero_iff.mp hl]; exact Nat.one_pos
  | k + 1, ρ, hl, h => by
    have hne : ρ ≠ [] := fun e => by rw [e] at hl; cases hl
    have e := List.dropLast_concat_getLast hne
    have h1 := val_lt k ρ.dropLast (by rw [List.length_dropLast, hl]; rfl) fun t ht => h t (List.dropLast_subset _ ht)
    have h2 := h _ (List.getLast_mem hne)
    rw [← e, val_app, Nat.pow_succ]
    have : (val n ρ.dropLast + 1) * n ≤ n ^ k * n := Nat.mul_le_mul_right _ h1
    rw [Nat.add_mul] at this
    omega
theorem n_digits (d : Nat) (hT : WT T) {x1 x2 x3 x4 x5 : Int32} : ∀ (k : Nat) (ρ : List Nat) (O : Mem_), ρ.length = k → k ≤ nS T → (∀ t, t ∈ ρ → t < nS T) → MT (O 7 0) T → ∃ O', ex (d + 1) 187 85 [some (vr 7 0 0), some (vi x1), some (vi x2), some (vi x3), some (vi x4), some (vi x5), some (vi (nI (val (nS T) ρ))), some (vi (nI k - nI 1))] [] O = ex (d + 1) 187 85 [some (vr 7 0 0), some (vi x1), some (vi x2), some (vi x3), some (vi x4), some (vi x5), some (vi (nI 0)), some (vi (nI 0 - nI 1))] [] O' ∧ Ls O' 32 0 ρ ∧ Ro 7 0 O O' ∧ ∀ p q, p ≠ 32 ∨ k ≤ q → O' 7 0 p q = O 7 0 p q
  | 0, ρ, O, hl, _, _, h => by
    rw [List.length_eq_zero_iff.mp hl]
    exact ⟨O, rfl, fun j hj => absurd hj (Nat.not_lt_zero j), Ro.rfl, fun _ _ _ => rfl⟩
  | k + 1, ρ, O, hl, hk, hρ, h => by
    have h4 := hT.2.2.1
    have hne : ρ ≠ [] := fun e => by rw [e] at hl; cases hl
    have e := List.dropLast_concat_getLast hne
    have l1 : ρ.dropLast.length = k := by rw [List.length_dropLast, hl]; rfl
    have h2 := hρ _ (List.getLast_mem hne)
    have hv := val_lt (k + 1) ρ hl hρ
    have hb : nS T ^ (k + 1) ≤ 4 ^ 4 := Nat.le_trans (Nat.pow_le_pow_left h4 _) (Nat.pow_le_pow_right (by decide) (by omega))
    have ve : val (nS T) ρ = val (nS T) ρ.dropLast * nS T + ρ.getLast hne := by rw [← val_app, e]
    have vm : val (nS T) ρ % nS T = ρ.getLast hne := by rw [ve, Nat.mul_comm, Nat.mul_add_mod, Nat.mod_eq_of_lt h2]
    have vd : val (nS T) ρ / nS T = val (nS T) ρ.dropLast := by rw [ve, Nat.mul_comm, Nat.mul_add_div (by omega), Nat.div_eq_of_lt h2, Nat.add_zero]
    have g : N2 O (up O 7 0 32 k (nI (ρ.getLast hne))) := N2.up (Or.inl rfl)
    obtain ⟨O', e1, r1, r2, r3⟩ := n_digits d hT k ρ.dropLast (up O 7 0 32 k (nI (ρ.getLast hne))) l1 (by omega) (fun t ht => hρ t (List.dropLast_subset _ ht)) (MT.n2 g h)
    refine ⟨O', ?_, fun j hj => ?_, Ro.rfl.up.trans r2, fun p q a => ?_⟩
    · rw [← e1, nI_p]
      refine (sX7_order_85 ..).trans ?_
      have hn0 : ¬ nI (nS T) = nI 0 := by rw [nI_eq (by omega) (by decide)]; omega
      rw [if_neg (nI_nlt (Nat.zero_le _) (by omega)), h.1.2.2.1, if_neg hn0, if_pos (ib_n (by omega) (by decide)), nI_clamp (by omega), pk_rem (by omega) (by omega) (by omega), vm, up_ne (by omega), h.1.2.2.1, if_neg hn0, pk_div (by omega) (by omega) (by omega), vd, ← nI_m]
    · rw [Nat.zero_add]
      by_cases z : j < k
      · have := r1 j (by omega)
        rw [Nat.zero_add] at this
        rw [this, ← e, gd_l (by omega)]
        rw [e]
      · have : j = k := by omega
        rw [this, r3 32 k (Or.inr (Nat.le_refl _)), up_eq]
        congr 1
        conv => rhs; rw [← e]
        rw [gd_r (by omega), l1, Nat.sub_self]; rfl
    · rw [r3 p q (by omega), up_ne (by omega)]
end
end
