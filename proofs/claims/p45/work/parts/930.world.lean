/-! THE WORLD that an abstract memory stands for: its cells, each at its address; what a store does to it. -/
def cnts : List Nat := [13, 3, 1, 1, 2, 1, 1]
def prts (c : Nat) : List Nat := 0 :: (List.range ((atb.getD c []).length)).filter fun p => !((aty c p).beq 9)
def cellsB : List (Nat × Nat × Nat) := (List.range 7).flatMap fun c => (List.range (cnts.getD c 0)).flatMap fun n => (prts c).map fun p => (c, n, p)
/-- the rows of the law that are there: they come one by one; the sixth, of longs, while it tells its text -/
def lawR (lw : Nat) : List Nat := ([[], [1], [1, 2], [1, 2, 3], [1, 2, 3, 4], [1, 2, 3, 4, 5], [1, 2, 3, 4, 5, 6], [1, 2, 3, 4, 5, 7], [1, 2, 3, 4, 5, 7, 8], [1, 2, 3, 4, 5, 7, 8, 9]] : List (List Nat)).getD (min lw 9) []
def cellsL (lw : Nat) : List (Nat × Nat × Nat) := cellsB ++ (lawR lw).map fun p => (7, 0, p)
theorem cellsL_min (lw : Nat) : cellsL lw = cellsL (min lw 9) := by
  unfold cellsL lawR
  rw [Nat.min_eq_left (Nat.min_le_right lw 9)]
theorem nd_inj {α : Type} : ∀ (l : List α), l.Nodup → ∀ (i j : Nat) (a : α), l[i]? = some a → l[j]? = some a → i = j
  | [], _, i, j, a, h, _ => by simp at h
  | b :: l, hn, i, j, a, h1, h2 => by
    have hb := (List.nodup_cons.mp hn).1
    cases i with
    | zero =>
      cases j with
      | zero => rfl
      | succ j =>
        rw [List.getElem?_cons_zero] at h1
        rw [List.getElem?_cons_succ] at h2
        cases h1
        exact absurd (List.mem_of_getElem? h2) hb
    | succ i =>
      rw [List.getElem?_cons_succ] at h1
      cases j with
      | zero =>
        rw [List.getElem?_cons_zero] at h2
        cases h2
        exact absurd (List.mem_of_getElem? h1) hb
      | succ j =>
        rw [List.getElem?_cons_succ] at h2
        rw [nd_inj l (List.nodup_cons.mp hn).2 i j a h1 h2]
set_option maxRecDepth 20000 in
theorem cells_nd_ : ∀ lw, lw < 10 → (cellsL lw).Nodup := by decide +kernel
theorem cells_nd (lw : Nat) : (cellsL lw).Nodup := by
  rw [cellsL_min]
  exact cells_nd_ _ (by omega)
abbrev AD_ : Type := Nat → Nat → Nat → Nat
def cv (ad : AD_) : V_ → Value
  | Sum.inl x => .int x
  | Sum.inr (Sum.inl x) => .long x
  | Sum.inr (Sum.inr (c, n, p)) => .ref (ad c n p)
def rad (ad : AD_) : V_ → Nat
  | Sum.inr (Sum.inr (c, n, p)) => ad c n p
  | _ => 0
def okc (lw : Nat) (c n p : Nat) : Prop := (c, n, p) ∈ (cellsL lw) ∨ (c = 9 ∧ n < 12 ∧ p = 0) ∨ (c = 8 ∧ n = 0 ∧ p = 0)
def okv (lw : Nat) : V_ → Prop
  | Sum.inr (Sum.inr (c, n, p)) => okc lw c n p
  | _ => True
def okL (lw : Nat) (lv : Lv_) : Prop := ∀ v, some v ∈ lv → okv lw v
def okS (lw : Nat) (st : List V_) : Prop := ∀ v ∈ st, okv lw v
/-- what the tables of cells and fields say together -/
def ckC (L : List (Nat × Nat × Nat)) : Nat × Nat × Nat → Bool
  | (c, n, 0) => c.blt 7 && (List.range (rcl c).2.2).all fun k => match fkd c k with
    | 0 => true
    | 1 => decide ((c, n, k + 1) ∈ L)
    | 2 => decide ((4, 0, 0) ∈ L ∧ (4, 1, 0) ∈ L)
    | m + 3 => decide ((m / 16, m % 16, 0) ∈ L)
  | (c, n, p + 1) => c.blt 8 && (aty c (p + 1)).blt 6 && (bif (aty c (p + 1)).blt 2 || (aty c (p + 1)).beq 5 then true else (List.range (aln c (p + 1))).all fun i => match aref c n (p + 1) i with
    | Sum.inr (Sum.inr q) => decide (q ∈ L)
    | _ => false)
set_option maxRecDepth 20000 in
theorem cells_ck_ : ∀ lw, lw < 10 → ∀ x ∈ cellsL lw, ckC (cellsL lw) x = true := by decide +kernel
theorem cells_ck (lw : Nat) : ∀ x ∈ cellsL lw, ckC (cellsL lw) x = true := by
  rw [cellsL_min]
  exact cells_ck_ _ (by omega)
theorem cell_zero_ : ∀ lw, lw < 10 → ∀ x ∈ cellsL lw, x.2.2 = 0 → aty x.1 0 = 9 := by decide +kernel
theorem cell_zero (lw : Nat) : ∀ x ∈ cellsL lw, x.2.2 = 0 → aty x.1 0 = 9 := by
  rw [cellsL_min]
  exact cell_zero_ _ (by omega)
theorem cell_lt {lw c n p : Nat} (h : (c, n, p) ∈ cellsL lw) : c < 8 := by
  have := cells_ck lw _ h
  cases p <;> simp only [ckC, Bool.and_eq_true, Nat.blt_eq] at this
  · omega
  · exact this.1.1
theorem cell_obj {lw c n : Nat} (h : (c, n, 0) ∈ cellsL lw) : c < 7 := by
  have := cells_ck lw _ h
  simp only [ckC, Bool.and_eq_true, Nat.blt_eq] at this
  exact this.1
theorem cell_fld {lw : Nat} {c n k : Nat} {O : Mem_} (h : (c, n, 0) ∈ (cellsL lw)) (hk : k < (rcl c).2.2) : okv lw (gfv (fkd c k) c n k O) := by
  have := cells_ck lw _ h
  simp only [ckC, Bool.and_eq_true] at this
  have h2 := List.all_eq_true.mp this.2 k (List.mem_range.mpr hk)
  revert h2
  generalize fkd c k = z
  intro h2
  match z, h2 with
  | 0, _ => exact trivial
  | 1, h2 => exact Or.inl (of_decide_eq_true h2)
  | 2, h2 =>
    have h3 := of_decide_eq_true h2
    refine Or.inl ?_
    unfold sel
    split
    · exact h3.1
    · exact h3.2
  | m + 3, h2 => exact Or.inl (of_decide_eq_true h2)
theorem cell_ref {lw : Nat} {c n p i : Nat} (h : (c, n, p) ∈ (cellsL lw)) (h1 : Nat.blt 1 (aty c p) = true) (h2 : (aty c p).blt 5 = true) (hi : i < aln c p) : ∃ q, aref c n p i = Sum.inr (Sum.inr q) ∧ okc lw q.1 q.2.1 q.2.2 := by
  have := cells_ck lw _ h
  cases p with
  | zero =>
    exfalso
    have h0 : aty c 0 = 9 := cell_zero lw _ h rfl
    rw [h0] at h2
    cases h2
  | succ p =>
    simp only [ckC, Bool.and_eq_true] at this
    have h3 := this.2
    have h4 : (aty c (p + 1)).blt 2 = false := by
      cases hq : (aty c (p + 1)).blt 2 with
      | false => rfl
      | true =>
        rw [Nat.blt_eq] at h1 hq
        omega
    have h6 : (aty c (p + 1)).beq 5 = false := by
      cases hq : (aty c (p + 1)).beq 5 with
      | false => rfl
      | true =>
        have hq := Nat.eq_of_beq_eq_true hq
        rw [Nat.blt_eq] at h2
        omega
    rw [h4, h6, Bool.or_false] at h3
    have h5 := List.all_eq_true.mp h3 i (List.mem_range.mpr hi)
    revert h5
    cases aref c n (p + 1) i with
    | inl x => intro h5; cases h5
    | inr y => cases y with
      | inl x => intro h5; cases h5
      | inr q => intro h5; exact ⟨q, rfl, Or.inl (of_decide_eq_true h5)⟩
def fls (ad : AD_) (O : Mem_) (c n : Nat) : List Value := (List.range (rcl c).2.2).map fun k => cv ad (gfv (fkd c k) c n k O)
def cel (ad : AD_) (cs : Nat → ClassId) (O : Mem_) : Nat × Nat × Nat → va_E
  | (c, n, 0) => .inr (c, fls ad O c n)
  | (c, n, p + 1) => .inl (cs (aty c (p + 1)), aln c (p + 1), bif (aty c (p + 1)).blt 2 then .inl (O c n (p + 1)) else bif (aty c (p + 1)).beq 5 then .inr (.inl fun i => rdL O c n (p + 1) i) else .inr (.inr (.inr (.inr fun i => some (rad ad (aref c n (p + 1) i))))))
def wo (lw : Nat) (ad : AD_) (cs : Nat → ClassId) (O : Mem_) : va_W := (cellsL lw).map fun x => (ad x.1 x.2.1 x.2.2, cel ad cs O x)
theorem wo_get {lw : Nat} {ad : AD_} {cs : Nat → ClassId} {O : Mem_} {q : Nat} {x : Nat × Nat × Nat} (h : (cellsL lw)[q]? = some x) : (wo lw ad cs O)[q]? = some (ad x.1 x.2.1 x.2.2, cel ad cs O x) := by
  unfold wo
  rw [List.getElem?_map, h]
  rfl
theorem wo_set {lw : Nat} {ad : AD_} {cs : Nat → ClassId} {O O' : Mem_} {q : Nat} {x : Nat × Nat × Nat} (h : (cellsL lw)[q]? = some x) (hk : ∀ y ∈ (cellsL lw), y ≠ x → cel ad cs O' y = cel ad cs O y) : (wo lw ad cs O).set q (ad x.1 x.2.1 x.2.2, cel ad cs O' x) = wo lw ad cs O' := by
  apply List.ext_getElem?
  intro j
  have hl : q < (wo lw ad cs O).length := (List.getElem?_eq_some_iff.mp (wo_get h)).1
  by_cases hj : j = q
  · subst hj
    rw [List.getElem?_set_self hl, wo_get h]
  · rw [List.getElem?_set_ne (Ne.symm hj)]
    unfold wo
    rw [List.getElem?_map, List.getElem?_map]
    cases hy : (cellsL lw)[j]? with
    | none => rfl
    | some y =>
      have hne : y ≠ x := by
        intro e
        subst e
        exact hj (nd_inj _ (cells_nd lw) j q _ hy h)
      rw [Option.map_some, Option.map_some, hk y (List.mem_of_getElem? hy) hne]
theorem gfv_congr {O O' : Mem_} {z c n k : Nat} (h : O' c n 0 k = O c n 0 k) : gfv z c n k O' = gfv z c n k O := by
  match z with
  | 0 => simp only [gfv, h]
  | 1 => rfl
  | 2 => simp only [gfv, h]
  | m + 3 => rfl
theorem cel_congr {ad : AD_} {cs : Nat → ClassId} {O O' : Mem_} {x : Nat × Nat × Nat} (h : O' x.1 x.2.1 x.2.2 = O x.1 x.2.1 x.2.2) : cel ad cs O' x = cel ad cs O x := by
  obtain ⟨c, n, p⟩ := x
  cases p with
  | zero =>
    simp only [cel, fls]
    congr 2
    apply List.map_congr_left
    intro k _
    rw [gfv_congr (congrFun h k)]
  | succ p =>
    have h : O' c n (p + 1) = O c n (p + 1) := h
    simp only [cel, rdL, h]
theorem wup_ne {O : Mem_} {c n p j : Nat} {v : Int32} {c' n' p' : Nat} (h : (c', n', p') ≠ (c, n, p)) : up O c n p j v c' n' p' = O c' n' p' := by
  funext j'
  unfold up
  rw [if_neg]
  rintro ⟨rfl, rfl, rfl, -⟩
  exact h rfl
theorem wup_eq (O : Mem_) (c n p j : Nat) (v : Int32) : up O c n p j v c n p = upd (O c n p) j v := by
  funext j'
  simp [up, upd]
theorem up_at (O : Mem_) (c n p j : Nat) (v : Int32) (k : Nat) : up O c n p j v c n p k = if k = j then v else O c n p k := by simp [up]
theorem cpy_ne {O : Mem_} {c0 n0 p0 c n p sp dp len : Nat} {c' n' p' : Nat} (h : (c', n', p') ≠ (c, n, p)) : cpy O c0 n0 p0 c n p sp dp len c' n' p' = O c' n' p' := by
  funext j'
  unfold cpy
  rw [if_neg]
  rintro ⟨rfl, rfl, rfl, -⟩
  exact h rfl
theorem cpy_eq (O : Mem_) (c0 n0 p0 c n p sp dp len : Nat) : cpy O c0 n0 p0 c n p sp dp len c n p = va_cpy (O c0 n0 p0) (O c n p) sp dp len := by
  funext j'
  simp [cpy, va_cpy]
theorem fls_get {ad : AD_} {O : Mem_} {c n k : Nat} (hk : k < (rcl c).2.2) : (fls ad O c n)[k]? = some (cv ad (gfv (fkd c k) c n k O)) := by
  unfold fls
  rw [List.getElem?_map, List.getElem?_range hk]
  rfl
theorem fls_len (ad : AD_) (O : Mem_) (c n : Nat) : (fls ad O c n).length = (rcl c).2.2 := by simp [fls]
theorem fls_set {ad : AD_} {O : Mem_} {c n y : Nat} {a : Int32} {v : Value} (hy : y < (rcl c).2.2) (hv : cv ad (gfv (fkd c y) c n y (up O c n 0 y a)) = v) : (fls ad O c n).set y v = fls ad (up O c n 0 y a) c n := by
  apply List.ext_getElem?
  intro j
  by_cases hj : j = y
  · subst hj
    rw [List.getElem?_set_self (by rw [fls_len]; exact hy), fls_get hy, hv]
  · rw [List.getElem?_set_ne (Ne.symm hj)]
    by_cases hl : j < (rcl c).2.2
    · rw [fls_get hl, fls_get hl, gfv_congr]
      rw [up_at, if_neg hj]
    · rw [List.getElem?_eq_none (by rw [fls_len]; omega), List.getElem?_eq_none (by rw [fls_len]; omega)]
/-- the cells lie apart, and where they may be written -/
def Inj_ (lw : Nat) (ad : AD_) (A : Nat → Prop) : Prop := (∀ x ∈ (cellsL lw), ∀ y ∈ (cellsL lw), ad x.1 x.2.1 x.2.2 = ad y.1 y.2.1 y.2.2 → x = y) ∧ ∀ x ∈ (cellsL lw), A (ad x.1 x.2.1 x.2.2)
theorem Inj_.D {lw : Nat} {ad : AD_} {A : Nat → Prop} {cs : Nat → ClassId} {O : Mem_} (h : Inj_ lw ad A) : va_D A (wo lw ad cs O) := by
  have key : ∀ (k : Nat) (q : Nat × va_E), (wo lw ad cs O)[k]? = some q → ∃ x, (cellsL lw)[k]? = some x ∧ q.1 = ad x.1 x.2.1 x.2.2 := by
    intro k q hq
    unfold wo at hq
    rw [List.getElem?_map] at hq
    cases hx : (cellsL lw)[k]? with
    | none => rw [hx] at hq; cases hq
    | some x => rw [hx] at hq; cases hq; exact ⟨x, rfl, rfl⟩
  refine ⟨fun i j p q hi hj hpq => ?_, fun k q hk => ?_⟩
  · obtain ⟨x, hx, ex⟩ := key i p hi
    obtain ⟨y, hy, ey⟩ := key j q hj
    have e := h.1 x (List.mem_of_getElem? hx) y (List.mem_of_getElem? hy) (by rw [← ex, ← ey]; exact hpq)
    subst e
    exact nd_inj _ (cells_nd lw) i j _ hx hy
  · obtain ⟨x, hx, ex⟩ := key k q hk
    rw [ex]
    exact h.2 x (List.mem_of_getElem? hx)
/-! locals -/
def asc (ad : AD_) : Nat → Lv_ → List (Nat × Value)
  | _, [] => []
  | i, none :: l => asc ad (i + 1) l
  | i, some v :: l => (i, cv ad v) :: asc ad (i + 1) l
theorem asc_ge {ad : AD_} : ∀ (l : Lv_) (i : Nat), ∀ q ∈ asc ad i l, i ≤ q.1
  | [], _, q, h => by cases h
  | none :: l, i, q, h => Nat.le_of_succ_le (asc_ge l (i + 1) q h)
  | some v :: l, i, q, h => by
    rcases List.mem_cons.mp h with rfl | h
    · exact Nat.le_refl _
    · exact Nat.le_of_succ_le (asc_ge l (i + 1) q h)
theorem asc_ln {ad : AD_} {v : V_} : ∀ (l : Lv_) (i k : Nat), ln l k = some v → (i + k, cv ad v) ∈ asc ad i l
  | [], _, k, h => by cases k <;> cases h
  | x :: l, i, 0, h => by
    have h : x = some v := h
    subst h
    exact List.mem_cons_self
  | x :: l, i, k + 1, h => by
    have h2 := asc_ln (ad := ad) l (i + 1) k h
    rw [show i + (k + 1) = i + 1 + k by omega]
    cases x with
    | none => exact h2
    | some y => exact List.mem_cons_of_mem _ h2
theorem asc_tail {ad : AD_} : ∀ (l : Lv_) (i : Nat), ∀ q ∈ asc ad (i + 1) l.tail, q ∈ asc ad i l
  | [], _, q, h => by cases h
  | none :: l, i, q, h => h
  | some v :: l, i, q, h => List.mem_cons_of_mem _ h
theorem cv_cat2 {ad : AD_} {v : V_} (h : (cv ad v).category = 2) : ∃ x, v = vl x := by
  match v, h with
  | Sum.inl x, h => cases h
  | Sum.inr (Sum.inl x), h => exact ⟨x, rfl⟩
  | Sum.inr (Sum.inr (c, n, p)), h => cases h
theorem asc_ls0 {ad : AD_} {v : V_} (l : Lv_) (i : Nat) : ∀ q ∈ asc ad i (ls0 l v), q = (i, cv ad v) ∨ (q ∈ asc ad i l ∧ i < q.1 ∧ ((cv ad v).category = 2 → i + 1 < q.1)) := by
  intro q hq
  have gen : ∀ (w : V_), (¬ ∃ x, w = vl x) → q ∈ asc ad i (ls0 l w) → q = (i, cv ad w) ∨ (q ∈ asc ad i l ∧ i < q.1 ∧ ((cv ad w).category = 2 → i + 1 < q.1)) := by
    intro w hw hq
    have hc : ¬ (cv ad w).category = 2 := fun h => hw (cv_cat2 h)
    cases l with
    | nil =>
      have : q ∈ asc ad i [some w] := by
        match w, hw, hq with
        | Sum.inl x, _, hq => exact hq
        | Sum.inr (Sum.inl x), hw, _ => exact absurd ⟨x, rfl⟩ hw
        | Sum.inr (Sum.inr y), _, hq => exact hq
      rcases List.mem_cons.mp this with e | h
      · exact Or.inl e
      · cases h
    | cons y l =>
      have : q ∈ asc ad i (some w :: l) := by
        match w, hw, hq with
        | Sum.inl x, _, hq => exact hq
        | Sum.inr (Sum.inl x), hw, _ => exact absurd ⟨x, rfl⟩ hw
        | Sum.inr (Sum.inr y), _, hq => exact hq
      rcases List.mem_cons.mp this with e | h
      · exact Or.inl e
      · exact Or.inr ⟨asc_tail (y :: l) i q h, asc_ge l (i + 1) q h, fun z => absurd z hc⟩
  match v, hq with
  | Sum.inl x, hq => exact gen _ (by rintro ⟨y, h⟩; cases h) hq
  | Sum.inr (Sum.inr y), hq => exact gen _ (by rintro ⟨y, h⟩; cases h) hq
  | Sum.inr (Sum.inl x), hq =>
    have hq : q ∈ asc ad i (some (vl x) :: none :: l.tail.tail) := by
      unfold ls0 at hq
      exact hq
    rcases List.mem_cons.mp hq with e | h
    · exact Or.inl e
    · have h : q ∈ asc ad (i + 1 + 1) l.tail.tail := h
      have h1 := asc_ge _ _ q h
      exact Or.inr ⟨asc_tail _ _ q (asc_tail _ _ q h), by omega, fun _ => by omega⟩
theorem asc_lst {ad : AD_} {v : V_} : ∀ (l : Lv_) (i k : Nat), ∀ q ∈ asc ad i (lst l k v), q = (i + k, cv ad v) ∨ (q ∈ asc ad i l ∧ q.1 ≠ i + k ∧ ¬ (q.1 + 1 = i + k ∧ q.2.category = 2) ∧ ((cv ad v).category = 2 → q.1 ≠ i + k + 1)) := by
  intro l
  induction l with
  | nil =>
    intro i k
    induction k generalizing i with
    | zero =>
      intro q hq
      have hq : q ∈ asc ad i (ls0 [] v) := by unfold lst at hq; exact hq
      rcases asc_ls0 [] i q hq with e | ⟨h, -⟩
      · exact Or.inl e
      · cases h
    | succ k ih =>
      intro q hq
      have hq : q ∈ asc ad (i + 1) (lst [] k v) := by
        cases k with
        | zero => unfold lst at hq; unfold lst; exact hq
        | succ k => unfold lst at hq; exact hq
      rcases ih (i + 1) q hq with e | ⟨h, -⟩
      · exact Or.inl (by rw [e]; congr 1; omega)
      · cases h
  | cons x l ih =>
    intro i k
    match k with
    | 0 =>
      intro q hq
      have hq : q ∈ asc ad i (ls0 (x :: l) v) := by unfold lst at hq; exact hq
      rcases asc_ls0 (x :: l) i q hq with e | ⟨h, h1, h2⟩
      · exact Or.inl e
      · exact Or.inr ⟨h, by omega, by omega, fun z => by have := h2 z; omega⟩
    | 1 =>
      intro q hq
      have hq : q ∈ asc ad i (unl x :: ls0 l v) := by unfold lst at hq; exact hq
      have hr : q ∈ asc ad (i + 1) (ls0 l v) ∨ (∃ w, x = some w ∧ (¬ ∃ y, w = vl y) ∧ q = (i, cv ad w)) := by
        match x, hq with
        | none, hq => exact Or.inl hq
        | some (Sum.inl y), hq =>
          rcases List.mem_cons.mp hq with e | h
          · exact Or.inr ⟨_, rfl, (by rintro ⟨y, h⟩; cases h), e⟩
          · exact Or.inl h
        | some (Sum.inr (Sum.inl y)), hq => exact Or.inl hq
        | some (Sum.inr (Sum.inr y)), hq =>
          rcases List.mem_cons.mp hq with e | h
          · exact Or.inr ⟨_, rfl, (by rintro ⟨y, h⟩; cases h), e⟩
          · exact Or.inl h
      rcases hr with h | ⟨w, rfl, hw, rfl⟩
      · rcases asc_ls0 l (i + 1) q h with e | ⟨h, h1, h2⟩
        · exact Or.inl e
        · exact Or.inr ⟨asc_tail (x :: l) i q h, by omega, by omega, fun z => by have := h2 z; omega⟩
      · refine Or.inr ⟨List.mem_cons_self, by show i ≠ i + 1; omega, fun h => hw (cv_cat2 h.2), fun _ => by show i ≠ i + 1 + 1; omega⟩
    | k + 2 =>
      intro q hq
      have hq : q ∈ asc ad i (x :: lst l (k + 1) v) := by unfold lst at hq; exact hq
      have hr : q ∈ asc ad (i + 1) (lst l (k + 1) v) ∨ (∃ w, x = some w ∧ q = (i, cv ad w)) := by
        cases x with
        | none => exact Or.inl hq
        | some w =>
          rcases List.mem_cons.mp hq with e | h
          · exact Or.inr ⟨w, rfl, e⟩
          · exact Or.inl h
      rcases hr with h | ⟨w, rfl, rfl⟩
      · rcases ih (i + 1) (k + 1) q h with e | ⟨h, h1, h2, h3⟩
        · exact Or.inl (by rw [e]; congr 1; omega)
        · exact Or.inr ⟨asc_tail (x :: l) i q h, by omega, fun z => h2 ⟨by omega, z.2⟩, fun z => by have := h3 z; omega⟩
      · refine Or.inr ⟨List.mem_cons_self, by show i ≠ i + (k + 2); omega, by rintro ⟨h, -⟩; have h : i + 1 = i + (k + 2) := h; omega, fun _ => by show i ≠ i + (k + 2) + 1; omega⟩
theorem asc_msk {ad : AD_} : ∀ (m : List Bool) (l : Lv_) (i : Nat), ∀ q ∈ asc ad i (msk m l), q ∈ asc ad i l
  | [], l, i, q, h => by cases h
  | b :: m, [], i, q, h => by cases h
  | b :: m, x :: l, i, q, h => by
    cases b with
    | false =>
      have h : q ∈ asc ad (i + 1) (msk m l) := h
      exact asc_tail (x :: l) i q (asc_msk m l (i + 1) q h)
    | true =>
      cases x with
      | none => exact asc_msk m l (i + 1) q h
      | some v =>
        rcases List.mem_cons.mp h with e | h
        · rw [e]; exact List.mem_cons_self
        · exact List.mem_cons_of_mem _ (asc_msk m l (i + 1) q h)
theorem asc_ctl {ad : AD_} {ct : List (Nat × List Bool)} {pc : Nat} {l : Lv_} {i : Nat} : ∀ q ∈ asc ad i (ctl ct pc l), q ∈ asc ad i l := by
  unfold ctl
  cases ctk ct pc with
  | none => exact fun _ h => h
  | some m => exact asc_msk m l i
theorem asc_lay {ad : AD_} : ∀ (vs : List V_) (i : Nat), asc ad i (lay vs) = lv_args i (vs.map (cv ad))
  | [], _ => rfl
  | Sum.inl x :: l, i => by
    have := asc_lay (ad := ad) l (i + 1)
    show (i, _) :: _ = (i, _) :: _
    rw [this]
    rfl
  | Sum.inr (Sum.inl x) :: l, i => by
    have := asc_lay (ad := ad) l (i + 2)
    show (i, _) :: _ = (i, _) :: _
    rw [show asc ad (i + 1) (none :: lay l) = asc ad (i + 1 + 1) (lay l) from rfl, this]
    rfl
  | Sum.inr (Sum.inr (c, n, p)) :: l, i => by
    have := asc_lay (ad := ad) l (i + 1)
    show (i, _) :: _ = (i, _) :: _
    rw [this]
    rfl
theorem lg_cons (v : Value) (vs : List Value) : (lg_sl (v :: vs)).length = (if v.category = 2 then 2 else 1) + (lg_sl vs).length := by
  simp only [lg_sl, List.flatMap_cons, List.length_append]
  split <;> rfl
theorem lay_len {ad : AD_} : ∀ (vs : List V_), (lg_sl (vs.map (cv ad))).length = (lay vs).length
  | [] => rfl
  | Sum.inl x :: l => by
    have := lay_len (ad := ad) l
    rw [List.map_cons, lg_cons, this]
    show 1 + _ = (lay l).length + 1
    omega
  | Sum.inr (Sum.inl x) :: l => by
    have := lay_len (ad := ad) l
    rw [List.map_cons, lg_cons, this]
    show 2 + _ = (lay l).length + 1 + 1
    omega
  | Sum.inr (Sum.inr (c, n, p)) :: l => by
    have := lay_len (ad := ad) l
    rw [List.map_cons, lg_cons, this]
    show 1 + _ = (lay l).length + 1
    omega
theorem lv_mono {ls : Array Slot} {nL : Nat} {l l' : List (Nat × Value)} (h : lv_has ls nL l) (hm : ∀ q ∈ l', q ∈ l) : lv_has ls nL l' := ⟨h.1, h.2.1, fun q hq => h.2.2 q (hm q hq)⟩
theorem ok_ln {lw : Nat} {v : V_} : ∀ (l : Lv_) (k : Nat), okL lw l → ln l k = some v → okv lw v
  | [], k, _, h => by cases k <;> cases h
  | x :: l, 0, hl, h => hl v (by have h : x = some v := h; rw [h]; exact List.mem_cons_self)
  | x :: l, k + 1, hl, h => ok_ln l k (fun w hw => hl w (List.mem_cons_of_mem _ hw)) h
theorem ok_lst {lw : Nat} {v : V_} (hv : okv lw v) : ∀ (l : Lv_) (k : Nat), okL lw l → okL lw (lst l k v) := by
  have h0 : ∀ l : Lv_, okL lw l → okL lw (ls0 l v) := by
    intro l hl
    have gen : ∀ l : Lv_, okL lw l → okL lw (match l with | [] => [some v] | _ :: l => some v :: l) := by
      intro l hl w hw
      cases l with
      | nil =>
        rcases List.mem_cons.mp hw with e | h
        · cases e; exact hv
        · cases h
      | cons y l =>
        rcases List.mem_cons.mp hw with e | h
        · cases e; exact hv
        · exact hl w (List.mem_cons_of_mem _ h)
    match v, hv, gen with
    | Sum.inl x, _, gen => have := gen l hl; cases l <;> exact this
    | Sum.inr (Sum.inr x), _, gen => have := gen l hl; cases l <;> exact this
    | Sum.inr (Sum.inl x), hv, _ =>
      intro w hw
      unfold ls0 at hw
      rcases List.mem_cons.mp hw with e | h
      · cases e; exact hv
      · rcases List.mem_cons.mp h with e | h
        · cases e
        · exact hl w (List.mem_of_mem_tail (List.mem_of_mem_tail h))
  have hu : ∀ (x : Option V_) (w : V_), some w = unl x → x = some w := by
    intro x w h
    match x, h with
    | none, h => cases h
    | some (Sum.inl y), h => cases h; rfl
    | some (Sum.inr (Sum.inl y)), h => cases h
    | some (Sum.inr (Sum.inr y)), h => cases h; rfl
  intro l
  induction l with
  | nil =>
    intro k
    induction k with
    | zero => intro hl; unfold lst; exact h0 _ hl
    | succ k ih =>
      intro hl
      have e : lst [] (k + 1) v = none :: lst [] k v := by
        cases k with
        | zero => simp only [lst]
        | succ k => simp only [lst]
      rw [e]
      intro w hw
      rcases List.mem_cons.mp hw with q | h
      · cases q
      · exact ih hl w h
  | cons x l ih =>
    intro k hl
    match k with
    | 0 => unfold lst; exact h0 _ hl
    | 1 =>
      intro w hw
      have hw : some w ∈ unl x :: ls0 l v := by unfold lst at hw; exact hw
      rcases List.mem_cons.mp hw with q | h
      · exact hl w (by rw [hu x w q]; exact List.mem_cons_self)
      · exact h0 l (fun w hw => hl w (List.mem_cons_of_mem _ hw)) w h
    | k + 2 =>
      intro w hw
      have hw : some w ∈ x :: lst l (k + 1) v := by unfold lst at hw; exact hw
      rcases List.mem_cons.mp hw with q | h
      · exact hl w (by rw [← q]; exact List.mem_cons_self)
      · exact ih (k + 1) (fun w hw => hl w (List.mem_cons_of_mem _ hw)) w h
theorem ok_msk {lw : Nat} : ∀ (m : List Bool) (l : Lv_), okL lw l → okL lw (msk m l)
  | [], l, _ => fun w hw => by cases hw
  | b :: m, [], _ => fun w hw => by cases hw
  | b :: m, x :: l, hl => by
    intro w hw
    rcases List.mem_cons.mp hw with q | h
    · cases b with
      | false => cases q
      | true => exact hl w (by have q : some w = x := q; rw [← q]; exact List.mem_cons_self)
    · exact ok_msk m l (fun w hw => hl w (List.mem_cons_of_mem _ hw)) w h
theorem ok_ctl {lw : Nat} {ct : List (Nat × List Bool)} {pc : Nat} {l : Lv_} (hl : okL lw l) : okL lw (ctl ct pc l) := by
  unfold ctl
  cases ctk ct pc with
  | none => exact hl
  | some m => exact ok_msk m l hl
theorem ok_lay {lw : Nat} : ∀ (vs : List V_), okS lw vs → okL lw (lay vs)
  | [], _ => fun w hw => by cases hw
  | Sum.inl x :: l, h => fun w hw => by
    rcases List.mem_cons.mp hw with q | hw
    · cases q; exact trivial
    · exact ok_lay l (fun w hw => h w (List.mem_cons_of_mem _ hw)) w hw
  | Sum.inr (Sum.inl x) :: l, h => fun w hw => by
    rcases List.mem_cons.mp hw with q | hw
    · cases q; exact trivial
    · rcases List.mem_cons.mp hw with q | hw
      · cases q
      · exact ok_lay l (fun w hw => h w (List.mem_cons_of_mem _ hw)) w hw
  | Sum.inr (Sum.inr (c, n, p)) :: l, h => fun w hw => by
    rcases List.mem_cons.mp hw with q | hw
    · cases q; exact h _ List.mem_cons_self
    · exact ok_lay l (fun w hw => h w (List.mem_cons_of_mem _ hw)) w hw
theorem hlt_s {ad : AD_} : ∀ (l : List (Nat × Nat)) (lv : Lv_) (i : Nat), hlt l lv = true → asc ad i lv = (l.zipIdx i).map fun q => (q.2, Value.ref (ad q.1.1 0 q.1.2))
  | [], [], i, _ => rfl
  | [], none :: _, i, h => by cases h
  | [], some _ :: _, i, h => by cases h
  | (c, p) :: l, [], i, h => by cases h
  | (c, p) :: l, none :: _, i, h => by cases h
  | (c, p) :: l, some (Sum.inl _) :: _, i, h => by cases h
  | (c, p) :: l, some (Sum.inr (Sum.inl _)) :: _, i, h => by cases h
  | (c, p) :: l, some (Sum.inr (Sum.inr (c', n', p'))) :: m, i, h => by
    have h : (c'.beq c && (n'.beq 0 && (p'.beq p && hlt l m))) = true := h
    simp only [Bool.and_eq_true] at h
    obtain ⟨h1, h2, h3, h4⟩ := h
    obtain rfl := Nat.eq_of_beq_eq_true h1
    obtain rfl := Nat.eq_of_beq_eq_true h2
    obtain rfl := Nat.eq_of_beq_eq_true h3
    have := hlt_s (ad := ad) l m (i + 1) h4
    show (i, _) :: _ = _
    rw [this, List.zipIdx_cons, List.map_cons]
    rfl
theorem lgc_x (v : Int64) : lgc (lgl v) (lgh v) = v := by
  apply Int64.toBitVec_inj.mp
  have a1 : (lgh v).toInt64.toBitVec = ((v.toBitVec.sshiftRight 32).signExtend 32).signExtend 64 := by
    unfold lgh
    rw [Int32.toBitVec_toInt64, Int64.toBitVec_toInt32]
    rfl
  have a2 : (lgl v).toInt64.toBitVec = (v.toBitVec.signExtend 32).signExtend 64 := by
    unfold lgl
    rw [Int32.toBitVec_toInt64, Int64.toBitVec_toInt32]
  have a3 : (lgc (lgl v) (lgh v)).toBitVec = ((lgh v).toInt64.toBitVec <<< 32) ||| ((lgl v).toInt64.toBitVec &&& 4294967295#64) := by
    unfold lgc
    rw [Int64.toBitVec_or, Int64.toBitVec_and]
    rfl
  rw [a3, a1, a2]
  apply BitVec.eq_of_getLsbD_eq
  intro i hi
  rw [BitVec.getLsbD_or, BitVec.getLsbD_and, BitVec.getLsbD_shiftLeft]
  have c : (4294967295#64).getLsbD i = decide (i < 32) := by
    show Nat.testBit 4294967295 i = _
    rw [show (4294967295 : Nat) = 2 ^ 32 - 1 by decide, Nat.testBit_two_pow_sub_one]
  rw [c, BitVec.getLsbD_signExtend, BitVec.getLsbD_signExtend, BitVec.getLsbD_signExtend, BitVec.getLsbD_signExtend, BitVec.getLsbD_sshiftRight]
  by_cases h : i < 32
  · simp [h, hi]
  · have h2 : 32 + (i - 32) = i := by omega
    have h3 : i - 32 < 32 := by omega
    have h4 : i - 32 < 64 := by omega
    have h5 : ¬ 64 ≤ i - 32 := by omega
    simp [h, hi, h2, h3, h4, h5]
theorem rdL_ne {O O' : Mem_} {c n p j : Nat} (h : O' c n p = O c n p) : rdL O' c n p j = rdL O c n p j := by
  unfold rdL
  rw [h]
theorem rdL_up (O : Mem_) (c n p j : Nat) (v : Int64) (k : Nat) : rdL (upL O c n p j v) c n p k = if k = j then v else rdL O c n p k := by
  unfold rdL upL
  by_cases h : k = j
  · subst h
    rw [if_pos rfl]
    rw [show up (up O c n p (2 * k) (lgl v)) c n p (2 * k + 1) (lgh v) c n p (2 * k) = lgl v from by unfold up; rw [if_neg (by omega), if_pos ⟨rfl, rfl, rfl, rfl⟩]]
    rw [show up (up O c n p (2 * k) (lgl v)) c n p (2 * k + 1) (lgh v) c n p (2 * k + 1) = lgh v from by unfold up; rw [if_pos ⟨rfl, rfl, rfl, rfl⟩]]
    exact lgc_x v
  · rw [if_neg h]
    unfold up
    rw [if_neg (by omega), if_neg (by omega), if_neg (by omega), if_neg (by omega)]
theorem upL_ne {O : Mem_} {c n p j : Nat} {v : Int64} {c' n' p' : Nat} (h : (c', n', p') ≠ (c, n, p)) : upL O c n p j v c' n' p' = O c' n' p' := by
  unfold upL
  rw [wup_ne h, wup_ne h]
