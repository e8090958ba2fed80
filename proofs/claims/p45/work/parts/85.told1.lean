/-! THE LAW TELLS ITS TEXT: things. -/
section
/-- bs was told so far, all bytes -/
def TQ (O : Mem_) (bs : List Nat) : Prop := TP O bs ∧ ∀ x ∈ bs, x < 256
theorem mem_app {P : Nat → Prop} {a b : List Nat} (ha : ∀ x ∈ a, P x) (hb : ∀ x ∈ b, P x) : ∀ x ∈ a ++ b, P x := fun x hx => by
  rcases List.mem_append.mp hx with h | h
  · exact ha x h
  · exact hb x h
theorem txL_lt (a : Nat) : ∀ x ∈ txL a, x < 256 := by
  unfold txL
  intro x hx
  rcases List.mem_cons.mp hx with rfl | hx
  · decide
  · split at hx
    · rw [List.mem_singleton.mp hx]; decide
    · have := ltp_in a 8 x hx
      omega
theorem txL_16 : ∀ a, a < 16 → (txL a).length ≤ 5 := by decide
theorem q_put {O : Mem_} {bs : List Nat} {c : Nat} (h : TQ O bs) (hc : c < 256) (hl : bs.length < 400) : ∃ O', ex 9 123 0 [some (vr 6 0 0), some (vr 7 0 6), some (vi (nI c))] [] O = some (nI 0, O') ∧ TQ O' (bs ++ [c]) ∧ FrW O O' := by
  obtain ⟨O', e, t, f⟩ := l_put 6 h.1 h.2 hc hl
  exact ⟨O', e, ⟨t, mem_app h.2 (fun x hx => by rw [List.mem_singleton.mp hx]; exact hc)⟩, f⟩
theorem q_word {O : Mem_} {bs w : List Nat} {v : Int64} (hw : wl v 8 = w) (h : TQ O bs) (hl : bs.length + 8 ≤ 400) : ∃ O', ex 9 124 0 [some (vr 6 0 0), some (vr 7 0 6), some (vl v), none] [] O = some (nI 0, O') ∧ TQ O' (bs ++ w) ∧ FrW O O' := by
  obtain ⟨O', e, t, f⟩ := l_word 5 v h.1 h.2 hl
  rw [hw] at t
  exact ⟨O', e, ⟨t, mem_app h.2 (fun x hx => by rw [← hw] at hx; exact wl_lt v 8 x hx)⟩, f⟩
theorem q_letters {O : Mem_} {bs : List Nat} {a : Nat} (ha : a < 256) (h : TQ O bs) (hl : bs.length + 10 ≤ 400) : ∃ O', ex 9 128 0 [some (vr 6 0 0), some (vr 7 0 6), some (vi (nI a))] [] O = some (nI 0, O') ∧ TQ O' (bs ++ txL a) ∧ FrW O O' := by
  obtain ⟨O', e, t, f⟩ := l_letters 5 ha h.1 h.2 hl
  exact ⟨O', e, ⟨t, mem_app h.2 (txL_lt a)⟩, f⟩
theorem q_number {O : Mem_} {bs : List Nat} {v : Nat} (hv : v < 10) (h : TQ O bs) (hl : bs.length + 2 ≤ 400) : ∃ O', ex 9 126 0 [some (vr 6 0 0), some (vr 7 0 6), some (vi (nI v))] [] O = some (nI 0, O') ∧ TQ O' (bs ++ txN v) ∧ FrW O O' := by
  obtain ⟨O', e, t, f⟩ := l_number 5 hv h.1 h.2 hl
  refine ⟨O', e, ⟨t, mem_app h.2 fun x hx => ?_⟩, f⟩
  unfold txN at hx
  simp only [List.mem_cons, List.not_mem_nil, or_false] at hx
  omega
theorem TQ.u7 {O : Mem_} {bs : List Nat} (h : TQ O bs) {p j : Nat} {v : Int32} (hp : p ≠ 6) : TQ (up O 7 0 p j v) bs := by
  obtain ⟨⟨tp, w, ci, t1, t2, r0, r1, r2⟩, hb⟩ := h
  have e : up O 7 0 p j v 7 0 6 = O 7 0 6 := funext fun q => up_ne (by omega)
  exact ⟨⟨tp, w, ci.of7 (fun c z => funext fun q => up_row (Or.inl z)), t1, t2, by rw [rL_of e]; exact r0, by rw [rL_of e]; exact r1, by rw [rL_of e]; exact r2⟩, hb⟩
theorem low_ok (d : Nat) (O : Mem_) (x : Int32) {n : Nat} (hn : 0 < n) (hn2 : n < 2 ^ 31) : ∃ r, r < n ∧ ex (d + 1) 122 0 [some (vi x), some (vi (nI n))] [] O = some (nI r, O) := by
  have h1 : x &&& nI 2147483647 = nI (x.toBitVec.toNat % 2 ^ 31) := pk_and x 31 (by decide)
  have hm : x.toBitVec.toNat % 2 ^ 31 < 2 ^ 31 := Nat.mod_lt _ (by decide)
  refine ⟨x.toBitVec.toNat % 2 ^ 31 % n, Nat.mod_lt _ hn, ?_⟩
  rw [sL_low_0, if_neg (by rw [nI_eq hn2 (by decide)]; omega), h1, pk_rem hm hn hn2]
theorem cell_ok (d : Nat) {O : Mem_} {L k : Nat} (hL : O 8 0 1 0 = nI L) (h31 : L < 2 ^ 31) (hk : k < 2 ^ 31) : ∃ r, ex (d + 1) 121 0 [some (vr 8 0 0), some (vi (nI k))] [] O = some (r, O) := by
  have st := sL_cell_0 d O (nI k)
  rw [hL, nI_clamp h31] at st
  by_cases h : k < L
  · rw [if_pos (by rw [nI_ltI hk h31]; exact h), if_pos (ib_n h h31)] at st
    exact ⟨_, st⟩
  · rw [if_neg (by rw [nI_ltI hk h31]; exact h)] at st
    exact ⟨_, st⟩
/-- how many of each -/
def Mn (R : Nat → Nat → Int32) (a b c e : Nat) : Prop := R 5 0 = nI a ∧ R 5 1 = nI b ∧ R 5 2 = nI c ∧ R 5 3 = nI e
theorem Mn.of {R R' : Nat → Nat → Int32} {a b c e : Nat} (h : Mn R a b c e) (g : R' 5 = R 5) : Mn R' a b c e := by
  unfold Mn at h ⊢
  rw [g]
  exact h
/-- k things were told -/
def S1 (L a b c e k : Nat) (l : List Nat) (O : Mem_) : Prop := l.length = k ∧ (∀ x ∈ l, x < 16) ∧ (∀ j, j < k → O 7 0 1 j = nI (l.getD j 0)) ∧ TQ O (l.flatMap lnT) ∧ Mn (O 7 0) a b c e ∧ O 8 0 1 0 = nI L
theorem lnT_len {a : Nat} (h : a < 16) : (lnT a).length ≤ 11 := by
  have := txL_16 a h
  unfold lnT
  simp only [List.length_append, List.length_singleton]
  have : w_thing.length = 5 := rfl
  omega
theorem fl_le {α : Type} {f : α → List Nat} {b : Nat} {P : α → Prop} (h : ∀ a, P a → (f a).length ≤ b) : ∀ l : List α, (∀ a ∈ l, P a) → (l.flatMap f).length ≤ b * l.length
  | [], _ => Nat.le_refl _
  | a :: l, hl => by
    have h1 := fl_le h l (fun x hx => hl x (List.mem_cons_of_mem _ hx))
    have h2 := h a (hl a List.mem_cons_self)
    rw [List.flatMap_cons, List.length_append, List.length_cons, Nat.mul_add, Nat.mul_one]
    omega
theorem wl_thing : wl 499967946343 8 = w_thing := by decide +kernel
theorem gd_n {α : Type} {l : List α} {x y : α} {k : Nat} (h : l.length = k) : (l ++ [x]).getD k y = x := by rw [← h]; exact gd_last
theorem s1_step {L a b c e n k : Nat} {l : List Nat} {O : Mem_} (h31 : L < 2 ^ 31) (hn : 0 < n) (hn16 : n ≤ 16) (ha : a ≤ 5) (hk : k < a) (h : S1 L a b c e k l O) : ∃ x O', S1 L a b c e (k + 1) (l ++ [x]) O' ∧
    ex 10 129 91 [some (vr 6 0 0), some (vr 8 0 0), some (vi (nI 0)), some (vr 7 0 1), some (vr 7 0 2), some (vr 7 0 3), some (vr 7 0 4), some (vr 7 0 5), some (vr 7 0 6), none, none, some (vi (nI (n - 1))), some (vi (nI k))] [] O = ex 10 129 91 [some (vr 6 0 0), some (vr 8 0 0), some (vi (nI 0)), some (vr 7 0 1), some (vr 7 0 2), some (vr 7 0 3), some (vr 7 0 4), some (vr 7 0 5), some (vr 7 0 6), none, none, some (vi (nI (n - 1))), some (vi (nI (k + 1)))] [] O' := by
  obtain ⟨h1, h2, h3, h4, h5, h6⟩ := h
  have hlen := fl_le (f := lnT) (b := 11) (P := fun x => x < 16) (fun a => lnT_len) l h2
  obtain ⟨r0, e0⟩ := cell_ok 8 (k := 0 + 1) h6 h31 (by decide)
  obtain ⟨x, hx, e1⟩ := low_ok 8 O (r0 >>> (nI 5 * nI k &&& (31 : Int32))) hn (by omega)
  obtain ⟨O2, e2, t2, f2⟩ := q_word wl_thing (h4.u7 (p := 1) (j := k) (v := nI x) (by decide)) (by omega)
  have hr : ∀ p, p ≠ 6 → p ≠ 1 → O2 7 0 p = O 7 0 p := fun p z z1 => (f2.2 p z).trans (funext fun q => up_ne (by omega))
  have hr1 : ∀ j, O2 7 0 1 j = if j = k then nI x else O 7 0 1 j := fun j => by
    rw [f2.2 1 (by decide)]
    by_cases e : j = k
    · rw [if_pos e, e, up_eq]
    · rw [if_neg e, up_ne (by omega)]
  obtain ⟨O3, e3, t3, f3⟩ := q_letters (a := x) (by omega) t2 (by rw [List.length_append]; have : w_thing.length = 5 := rfl; omega)
  have hL := txL_16 x (by omega)
  obtain ⟨O4, e4, t4, f4⟩ := q_put (c := 59) t3 (by decide) (by rw [List.length_append, List.length_append]; have : w_thing.length = 5 := rfl; omega)
  have f34 := f3.trans f4
  have hn1 : nI (n - 1) + nI 1 = nI n := by rw [nI_add]; congr 1; omega
  refine ⟨x, O4, ⟨by rw [List.length_append, h1]; rfl, fun y hy => ?_, fun j hj => ?_, ?_, h5.of ?_, ?_⟩, ?_⟩
  · rcases List.mem_append.mp hy with hy | hy
    · exact h2 y hy
    · rw [List.mem_singleton.mp hy]; omega
  · rw [f34.2 1 (by decide), hr1]
    by_cases e : j = k
    · rw [if_pos e, e, gd_n h1]
    · rw [if_neg e, gd_old (by omega)]
      exact h3 j (by omega)
  · rw [List.flatMap_append, List.flatMap_cons, List.flatMap_nil, List.append_nil]
    unfold lnT
    rw [← List.append_assoc, ← List.append_assoc]
    exact t4
  · rw [f34.2 5 (by decide), hr 5 (by decide) (by decide)]
  · rw [f34.1 8 (by decide) (by decide), f2.1 8 (by decide) (by decide), up_row (Or.inl (by decide))]
    exact h6
  · have st := sL_told_91 9 O (nI 0) (nI (n - 1)) (nI k)
    have i0 : (nI 0).toNatClampNeg = 0 := by decide
    rw [if_pos (by decide), i0, h5.1, if_pos (by rw [nI_ltI (by omega) (by omega)]; exact hk), nI_add, e0, Option.bind_some, hn1] at st
    simp only [e1, Option.bind_some] at st
    rw [if_pos (ib_n (by omega) (by decide)), nI_clamp (by omega)] at st
    simp only [e2, Option.bind_some] at st
    rw [if_pos (ib_n (by omega) (by decide)), hr1, if_pos rfl] at st
    simp only [e3, e4, Option.bind_some, nI_add] at st
    exact st
end
