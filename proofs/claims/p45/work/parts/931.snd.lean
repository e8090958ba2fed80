/-! THE MACHINE DOES WHAT THE ABSTRACT ONE DOES: one step. -/
def tyL (cs : Nat → ClassId) : List (ClassId × FieldType) := [(cs 0, .int), (cs 1, .boolean), (cs 2, .object RX1), (cs 3, .object RX0), (cs 4, .array .int), (cs 5, .long)]
def sln : List Nat := [5, 5, 4, 5, 4, 7, 5, 3, 4, 5, 6, 6]
/-- what is so of the tables, the constants and the statics, whoever is called -/
def Ev (D : va_G) (ad : AD_) (cs : Nat → ClassId) (adV : Nat → Nat) (A : Nat → Prop) (s : State) : Prop :=
  va_K D vwCl (tyL cs) s ∧ vk_S 12 sln sT (fun i => ad 9 i 0) adV A s s.heap ∧ va_Z RJ0 "COMPACT_STRINGS" "Z" (.int 1) A s s.heap ∧ va_Zq RJ3 "SIOOBE_FORMATTER" "Ljava/util/function/BiFunction;" A s s.heap ∧
  (∀ i : Nat, i < 12 → vk_R RX3 (sdx_.getD i 0) (stx_.getD i "") (ad 9 i 0) s) ∧ ∀ q ∈ nst_, va_Nw (.methodLinkNest q.1 q.2.1 q.2.2.1 q.2.2.2) s
theorem Ev.same {D : va_G} {ad : AD_} {cs : Nat → ClassId} {adV : Nat → Nat} {A : Nat → Prop} {s U : State} (hv : U.vm = s.vm) (hh : U.heap = s.heap) (h : Ev D ad cs adV A s) : Ev D ad cs adV A U := by
  obtain ⟨h1, h2, h3, h4, h5, h6⟩ := h
  have ha : s.vm.Alike U.vm := by rw [hv]; exact Vm.Alike.refl _
  exact ⟨va_K.moved ha h1, by rw [hh]; exact vk_S.moved ha h2, by rw [hh]; exact va_Z.moved ha h3, by rw [hh]; exact va_Zq.moved ha h4, fun i hi => vk_R.same hv (h5 i hi), fun q hq => va_Nw.same rfl hv.symm (h6 q hq)⟩
theorem Ev.warm {D : va_G} {ad : AD_} {cs : Nat → ClassId} {adV : Nat → Nat} {A B : Nat → Prop} {s U : State} {H : Heap} {locs : List Loc} (hW : s.WarmedH U.vm) (hh : U.heap = H) (hS : va_S A s.heap H locs) (hAB : ∀ q, B q → A q) (h : Ev D ad cs adV A s) : Ev D ad cs adV B U := by
  obtain ⟨h1, h2, h3, h4, h5, h6⟩ := h
  have ha := hW.alike
  subst hh
  exact ⟨va_K.moved ha h1, ((h2.moved ha).kept hS.2.1).narrow hAB, ((h3.moved ha).kept hS.2.1).narrow hAB, ((h4.moved ha).kept hS.2.1).narrow hAB, fun i hi => vk_R.warm hW (h5 i hi), fun q hq => va_Nw.warmM hW (h6 q hq)⟩
def Fr (p : Program) (s : State) (m : MethodId) (args : Array Value) (c : Code) (own : String) (cb : ByteArray) (ml : Nat) : Prop :=
  p.tables.exec = Jvm.exec ∧ c.code = cb ∧ c.maxLocals = ml ∧ s.vm.findClass own = some m.cls ∧ ∀ w ∈ wsL_law, w.before args s = true
/-- the cells of the world -/
def Aw (lw : Nat) (ad : AD_) : Nat → Prop := fun q => ∃ x ∈ cellsL lw, q = ad x.1 x.2.1 x.2.2
def mwd (x : Nat) : List Jvm.Cond := .code (mcl x).1 (mcl x).2.1 (mcl x).2.2.1 (mcl x).2.2.2 :: wsL_law
/-- the script, as it was -/
def Scr (ad : AD_) (A : Nat → Prop) (s : State) (O0 : Mem_) : Prop := ∃ (L : Nat) (xs : Nat → Int32), L < 2 ^ 31 ∧ va_X (ad 8 0 0) L xs s s.heap ∧ ad 8 0 0 < s.heap.size ∧ ¬ A (ad 8 0 0) ∧ O0 8 0 1 0 = nI L ∧ ∀ j, j < L → O0 8 0 0 j = xs j
theorem Scr.warm {ad : AD_} {A B : Nat → Prop} {s U : State} {H : Heap} {locs : List Loc} {O O' : Mem_} (hW : s.WarmedH U.vm) (hh : U.heap = H) (hS : va_S A s.heap H locs) (hAB : ∀ q, B q → A q) (h8 : O' 8 = O 8) (h : Scr ad A s O) : Scr ad B U O' := by
  obtain ⟨L, xs, hL, hX, hbl, hbA, hlen, hxs⟩ := h
  subst hh
  exact ⟨L, xs, hL, (hX.moved hW.alike).kept (hS.2.1 _ hbl hbA), Nat.lt_of_lt_of_le hbl hS.1, fun q => hbA (hAB _ q), by rw [h8]; exact hlen, fun j hj => by rw [h8]; exact hxs j hj⟩
theorem Scr.same {ad : AD_} {A : Nat → Prop} {s U : State} {O : Mem_} (hv : U.vm = s.vm) (hh : U.heap = s.heap) (h : Scr ad A s O) : Scr ad A U O := by
  obtain ⟨L, xs, hL, hX, hbl, hbA, hlen, hxs⟩ := h
  have ha : s.vm.Alike U.vm := by rw [hv]; exact Vm.Alike.refl _
  exact ⟨L, xs, hL, by rw [hh]; exact hX.moved ha, by rw [hh]; exact hbl, hbA, hlen, hxs⟩
def mPj (D : va_G) (lw : Nat) (ad : AD_) (cs : Nat → ClassId) (adV : Nat → Nat) (a : List V_) (O : Mem_) : Array Value → State → Prop := va_Pc (a.map (cv ad)) (fun U => va_P D vwCl (wo lw ad cs O) U.heap ∧ Ev D ad cs adV (Aw lw ad) U)
def mPc (D : va_G) (lw : Nat) (ad : AD_) (cs : Nat → ClassId) (adV : Nat → Nat) (a : List V_) (O : Mem_) : Array Value → State → Prop := va_Pc (a.map (cv ad)) (fun U => va_P D vwCl (wo lw ad cs O) U.heap ∧ Ev D ad cs adV (Aw lw ad) U ∧ Scr ad (Aw lw ad) U O)
def mQc (D : va_G) (lw : Nat) (ad : AD_) (cs : Nat → ClassId) (rt : Option FieldType) (r : Rs_) : Array Value → State → Outcome → State → Prop := match rt with
  | none => va_Qv (S := Unit) (fun _ => True) (fun _ t => va_P D vwCl (wo lw ad cs r.2) t.heap) (Aw lw ad)
  | some _ => va_Qi (S := Unit) (fun v _ => v = r.1) (fun _ t => va_P D vwCl (wo lw ad cs r.2) t.heap) (Aw lw ad)
def CallOK (l : Launch) (f : Nat → Nat → Lv_ → List V_ → Mem_ → Option Rs_) (rm : Room) (D : va_G) (lw : Nat) (ad : AD_) (cs : Nat → ClassId) (adV : Nat → Nat) : Prop :=
  ∀ (x : Nat) (a : List V_) (O : Mem_) (r : Rs_), x < 218 → f x 0 (lay a) [] O = some r → okS lw a → (lay a).length ≤ (mcl x).2.2.1 →
    Met l (mcl x).1 (mwd x) rm (mPc D lw ad cs adV a O) (mQc D lw ad cs (mcl x).2.2.2 r) 0 0 (Aw lw ad)
/-- length() and charAt(k) of the String constants -/
def JdkOK (l : Launch) (rm : Room) (D : va_G) (lw : Nat) (ad : AD_) (cs : Nat → ClassId) (adV : Nat → Nat) : Prop :=
  (∀ (i : Nat) (O : Mem_), i < 12 → Met l yJ0_length_8abf5 (.code yJ0_length_8abf5 cJ0_length_8abf5 1 (some .int) :: wsL_law) rm (mPj D lw ad cs adV [vr 9 i 0] O) (mQc D lw ad cs (some .int) (nI (sT.getD i []).length, O)) 0 0 (Aw lw ad)) ∧
  ∀ (i : Nat) (k : Int32) (O : Mem_), i < 12 → ib k (sT.getD i []).length = true → Met l yJ0_charAt_5068e (.code yJ0_charAt_5068e cJ0_charAt_5068e 2 (some .char) :: wsL_law) rm (mPj D lw ad cs adV [vr 9 i 0, vi k] O) (mQc D lw ad cs (some .char) ((sT.getD i []).getD k.toNatClampNeg 0, O)) 0 0 (Aw lw ad)
def GoW (p : Program) (l : Launch) (e : Env) (R : Room) (s : State) (m : MethodId) (args : Array Value) (below : List Frame) (meth : Method) (c : Code) (cells slots : Nat) (Q : State → Prop) (D : va_G) (ad : AD_) (cs : Nat → ClassId) (A : Nat → Prop) (O0 : Mem_) (lw : Nat) (ml : Nat) (res : Rs_) (go : Go_) : Prop :=
  ∀ (pc : Nat) (lv : Lv_) (st : List V_) (O : Mem_) (H : Heap) (locs : List Loc) (ls : Array Slot), go pc lv st O = some res → O 8 = O0 8 → okL lw lv → okS lw st → va_P D vwCl (wo lw ad cs O) H → va_S A s.heap H locs → lv_has ls ml (asc ad 0 lv) → W p l e R s m args below meth c H locs cells slots Q (F0 m pc ls (st.map (cv ad)))
theorem wq_at {i : Nat} {w : Jvm.Cond} (h : wq i w = true) : w ∈ wsL_law := by
  have h1 := List.mem_of_getElem? (of_decide_eq_true h)
  rw [wsF_in]
  refine List.mem_append_left _ (List.mem_flatten.mpr ⟨_, ?_, h1⟩)
  rw [List.getD_eq_getElem?_getD] at h1 ⊢
  cases hq : wsF[i / 24]? with
  | none => rw [hq] at h1; cases h1
  | some l => rw [Option.getD_some]; exact List.mem_of_getElem? hq
set_option maxRecDepth 20000 in
theorem ws_good : wsL_law.all goodWord = true := by decide +kernel
theorem ws_goodIn {ws : List Jvm.Cond} (h : ∀ w ∈ ws, w ∈ wsL_law) : GoodIn wsL_law ws := fun w hw => ⟨h w hw, good_of_word (List.all_eq_true.mp ws_good w (h w hw))⟩
theorem pI_s {st : List V_} {g : Int32 → List V_ → Option Rs_} {r : Rs_} (h : pI st g = some r) : ∃ a s, st = vi a :: s ∧ g a s = some r := by
  unfold pI at h; split at h
  · exact ⟨_, _, rfl, h⟩
  · cases h
theorem pII_s {st : List V_} {g : Int32 → Int32 → List V_ → Option Rs_} {r : Rs_} (h : pII st g = some r) : ∃ a b s, st = vi b :: vi a :: s ∧ g a b s = some r := by
  unfold pII at h; split at h
  · exact ⟨_, _, _, rfl, h⟩
  · cases h
theorem pL_s {st : List V_} {g : Int64 → List V_ → Option Rs_} {r : Rs_} (h : pL st g = some r) : ∃ a s, st = vl a :: s ∧ g a s = some r := by
  unfold pL at h; split at h
  · exact ⟨_, _, rfl, h⟩
  · cases h
theorem pLL_s {st : List V_} {g : Int64 → Int64 → List V_ → Option Rs_} {r : Rs_} (h : pLL st g = some r) : ∃ a b s, st = vl b :: vl a :: s ∧ g a b s = some r := by
  unfold pLL at h; split at h
  · exact ⟨_, _, _, rfl, h⟩
  · cases h
theorem pLI_s {st : List V_} {g : Int64 → Int32 → List V_ → Option Rs_} {r : Rs_} (h : pLI st g = some r) : ∃ a b s, st = vi b :: vl a :: s ∧ g a b s = some r := by
  unfold pLI at h; split at h
  · exact ⟨_, _, _, rfl, h⟩
  · cases h
theorem pR_s {st : List V_} {g : Nat → Nat → Nat → List V_ → Option Rs_} {r : Rs_} (h : pR st g = some r) : ∃ c n q s, st = vr c n q :: s ∧ g c n q s = some r := by
  unfold pR at h; split at h
  · exact ⟨_, _, _, _, rfl, h⟩
  · cases h
theorem pRI_s {st : List V_} {g : Nat → Nat → Nat → Int32 → List V_ → Option Rs_} {r : Rs_} (h : pRI st g = some r) : ∃ c n q i s, st = vi i :: vr c n q :: s ∧ g c n q i s = some r := by
  unfold pRI at h; split at h
  · exact ⟨_, _, _, _, _, rfl, h⟩
  · cases h
theorem pRII_s {st : List V_} {g : Nat → Nat → Nat → Int32 → Int32 → List V_ → Option Rs_} {r : Rs_} (h : pRII st g = some r) : ∃ c n q i v s, st = vi v :: vi i :: vr c n q :: s ∧ g c n q i v s = some r := by
  unfold pRII at h; split at h
  · exact ⟨_, _, _, _, _, _, rfl, h⟩
  · cases h
theorem pRV_s {st : List V_} {g : Nat → Nat → Nat → V_ → List V_ → Option Rs_} {r : Rs_} (h : pRV st g = some r) : ∃ c n q v s, st = v :: vr c n q :: s ∧ g c n q v s = some r := by
  unfold pRV at h; split at h
  · exact ⟨_, _, _, _, _, rfl, h⟩
  · cases h
theorem gI_s {o : Option V_} {g : Int32 → Option Rs_} {r : Rs_} (h : gI o g = some r) : ∃ a, o = some (vi a) ∧ g a = some r := by
  unfold gI at h; split at h
  · exact ⟨_, rfl, h⟩
  · cases h
theorem gL_s {o : Option V_} {g : Int64 → Option Rs_} {r : Rs_} (h : gL o g = some r) : ∃ a, o = some (vl a) ∧ g a = some r := by
  unfold gL at h; split at h
  · exact ⟨_, rfl, h⟩
  · cases h
theorem gR_s {o : Option V_} {g : Nat → Nat → Nat → Option Rs_} {r : Rs_} (h : gR o g = some r) : ∃ c n q, o = some (vr c n q) ∧ g c n q = some r := by
  unfold gR at h; split at h
  · exact ⟨_, _, _, rfl, h⟩
  · cases h
theorem ib_in {i : Int32} {N : Nat} (h : ib i N = true) : vp_in i N := by
  simp only [ib, Bool.and_eq_true, decide_eq_true_eq] at h
  rintro (q | q)
  · exact h.1 q
  · exact absurd h.2 (Nat.not_lt.mpr q)
theorem ib_lt {i : Int32} {N : Nat} (h : ib i N = true) : i.toNatClampNeg < N := by
  simp only [ib, Bool.and_eq_true, decide_eq_true_eq] at h
  exact h.2
theorem okS_tl {lw : Nat} {v : V_} {st : List V_} (h : okS lw (v :: st)) : okS lw st := fun w hw => h w (List.mem_cons_of_mem _ hw)
theorem okS_hd {lw : Nat} {v : V_} {st : List V_} (h : okS lw (v :: st)) : okv lw v := h v List.mem_cons_self
theorem okS_cons {lw : Nat} {v : V_} {st : List V_} (hv : okv lw v) (h : okS lw st) : okS lw (v :: st) := fun w hw => by
  rcases List.mem_cons.mp hw with rfl | hw
  · exact hv
  · exact h w hw
theorem okc_cell {lw c n p : Nat} (h : okc lw c n p) (hc : c < 8) : (c, n, p) ∈ cellsL lw := by
  rcases h with h | ⟨rfl, -⟩ | ⟨rfl, -⟩
  · exact h
  · omega
  · omega
theorem cell_at {lw c n p : Nat} (h : (c, n, p) ∈ (cellsL lw)) : ∃ q : Nat, (cellsL lw)[q]? = some (c, n, p) := List.getElem?_of_mem h
theorem aty_lt {c p : Nat} (h : aty c p < 9) : c < 8 := by
  rcases Nat.lt_or_ge c 8 with q | q
  · exact q
  · exfalso
    have : atb.getD c [] = [] := by
      rw [List.getD_eq_getElem?_getD, List.getElem?_eq_none (by show 8 ≤ c; exact q)]
      rfl
    unfold aty at h
    rw [this] at h
    simp at h
theorem aty_pos {lw c n p : Nat} (h : (c, n, p) ∈ (cellsL lw)) (ha : aty c p < 9) : ∃ p', p = p' + 1 := by
  cases p with
  | zero =>
    have := cell_zero lw _ h rfl
    rw [this] at ha
    omega
  | succ p => exact ⟨p, rfl⟩
theorem cel_int {ad : AD_} {cs : Nat → ClassId} {O : Mem_} {c n p : Nat} {z : Nat} (hz : z < 2) (h : aty c (p + 1) = z) : cel ad cs O (c, n, p + 1) = .inl (cs z, aln c (p + 1), .inl (O c n (p + 1))) := by
  simp only [cel, h]
  rw [show z.blt 2 = true from Nat.blt_eq.mpr hz]
  rfl
theorem rcl_mem {c : Nat} (h : c < 7) : vwCl[c]? = some ((rcl c).1, (rcl c).2.1, (rcl c).2.2) := by
  match c, h with
  | 0, _ => rfl
  | 1, _ => rfl
  | 2, _ => rfl
  | 3, _ => rfl
  | 4, _ => rfl
  | 5, _ => rfl
  | 6, _ => rfl
theorem rcl_in {c : Nat} (h : c < 7) : ∀ w ∈ u_ws (rcl c).1 (rcl c).2.1 (rcl c).2.2, w ∈ wsL_law := by
  match c, h with
  | 0, _ => exact inlX0
  | 1, _ => exact inlX1
  | 2, _ => exact inlX2
  | 3, _ => exact inlX3
  | 4, _ => exact inlX4
  | 5, _ => exact inlX5
  | 6, _ => exact inlX6
theorem rcl_nm {c : Nat} (h : c < 7) : ∀ a, a < (rcl c).2.2 → ∀ b, b < (rcl c).2.2 → a ≠ b → ((rcl c).2.1 a).2.1 ≠ ((rcl c).2.1 b).2.1 := by
  match c, h with
  | 0, _ => exact nmX0
  | 1, _ => exact nmX1
  | 2, _ => exact nmX2
  | 3, _ => exact nmX3
  | 4, _ => exact nmX4
  | 5, _ => exact nmX5
  | 6, _ => exact nmX6
theorem rcl_ty {c : Nat} (h : c < 7) : ∃ ty : Nat → FieldType, ∀ k, k < (rcl c).2.2 → parseFieldDescriptor ((rcl c).2.1 k).2.2.1 = some (ty k) := by
  match c, h with
  | 0, _ => exact ⟨_, tyX0_ok⟩
  | 1, _ => exact ⟨_, tyX1_ok⟩
  | 2, _ => exact ⟨_, tyX2_ok⟩
  | 3, _ => exact ⟨_, tyX3_ok⟩
  | 4, _ => exact ⟨_, tyX4_ok⟩
  | 5, _ => exact ⟨_, tyX5_ok⟩
  | 6, _ => exact ⟨_, tyX6_ok⟩
theorem few_sum {ad : AD_} {n : Nat} {t : List V_} (h : fw_ n t = true) : ((t.map (cv ad)).map fun v => v.category).sum ≤ n := by
  induction t generalizing n with
  | nil => exact Nat.zero_le _
  | cons v t ih =>
    match v with
    | Sum.inl x =>
      cases n with
      | zero => cases h
      | succ n =>
        have h : fw_ n t = true := by cases n <;> exact h
        have := ih h
        simp only [List.map_cons, List.sum_cons]
        show 1 + _ ≤ _
        omega
    | Sum.inr (Sum.inr x) =>
      cases n with
      | zero => cases h
      | succ n =>
        have h : fw_ n t = true := by cases n <;> exact h
        have := ih h
        simp only [List.map_cons, List.sum_cons]
        show 1 + _ ≤ _
        omega
    | Sum.inr (Sum.inl x) =>
      match n, h with
      | 0, h => cases h
      | 1, h => cases h
      | n + 2, h =>
        have h : fw_ n t = true := h
        have := ih h
        simp only [List.map_cons, List.sum_cons]
        show 2 + _ ≤ _
        omega
theorem pN_s {g : List V_ → List V_ → Option Rs_} {r : Rs_} : ∀ (n : Nat) (acc s : List V_), pN n acc s g = some r → ∃ b t, s = b ++ t ∧ b.length = n ∧ g (b.reverse ++ acc) t = some r
  | 0, acc, s, h => ⟨[], s, rfl, rfl, h⟩
  | n + 1, acc, v :: s, h => by
    obtain ⟨b, t, e, hl, hg⟩ := pN_s n (v :: acc) s h
    refine ⟨v :: b, t, by rw [e]; rfl, by simp [hl], ?_⟩
    simpa using hg
  | n + 1, acc, [], h => by cases h
theorem swg_s {a : Int32} {g : Nat → Option Rs_} : ∀ (l : List (Int32 × Nat)) (d : Nat), (∃ (j : Nat) (t : Nat), l[j]? = some (a, t) ∧ swg a l d g = g t) ∨ ((∀ (j k : Nat) (x : Int32), l[j]? = some (x, k) → a ≠ x) ∧ swg a l d g = g d)
  | [], d => Or.inr ⟨fun j k x h => by simp at h, rfl⟩
  | (k, t) :: l, d => by
    by_cases h : a = k
    · subst h
      exact Or.inl ⟨0, t, rfl, by simp [swg]⟩
    · rcases swg_s (a := a) (g := g) l d with ⟨j, t', h1, h2⟩ | ⟨h1, h2⟩
      · exact Or.inl ⟨j + 1, t', h1, by simp [swg, h, h2]⟩
      · refine Or.inr ⟨fun j q x hj => ?_, by simp [swg, h, h2]⟩
        cases j with
        | zero => cases hj; exact h
        | succ j => exact h1 j q x hj
section SND
variable {p : Program} {l : Launch} {e : Env} {R : Room} {s : State} {m : MethodId} {args : Array Value} {below : List Frame} {meth : Method} {c : Code} {cells slots : Nat} {Q : State → Prop}
variable {D : va_G} {ad : AD_} {cs : Nat → ClassId} {adV : Nat → Nat} {A : Nat → Prop} {O0 : Mem_} {lw : Nat} {ml : Nat} {res : Rs_} {go : Go_} {own : String} {cb : ByteArray} {rt : Option FieldType}
variable {pc len x y z : Nat} {k : Int32} {kl : Int64} {lv : Lv_} {st : List V_} {O : Mem_} {H : Heap} {locs : List Loc} {ls : Array Slot}
theorem ex_mem {α : Type} {q : α} {l : List α} (h : q ∈ l) : ∃ k : Nat, l[k]? = some q := List.getElem?_of_mem h
/-- a local is read -/
theorem lc_at (hl : lv_has ls ml (asc ad 0 lv)) {v : V_} (h : ln lv x = some v) : ls[x]? = some (.val (cv ad v)) := by
  have := asc_ln (ad := ad) lv 0 x h
  rw [Nat.zero_add] at this
  exact hl.2.2 _ this
theorem lc_set1 {v : V_} (hc : (cv ad v).category = 1) {ls' : Array Slot} (h : lv_has ls' ml ((x, cv ad v) :: (asc ad 0 lv).filter (fun q => !(q.1 == x) && !(q.1 + 1 == x && q.2.category == 2)))) : lv_has ls' ml (asc ad 0 (lst lv x v)) := by
  refine lv_mono h fun q hq => ?_
  rcases asc_lst lv 0 x q hq with e | ⟨h1, h2, h3, -⟩
  · rw [e, Nat.zero_add]; exact List.mem_cons_self
  · rw [Nat.zero_add] at h2 h3
    refine List.mem_cons_of_mem _ (List.mem_filter.mpr ⟨h1, ?_⟩)
    simp only [Bool.and_eq_true, Bool.not_eq_true', beq_eq_false_iff_ne, ne_eq, Bool.and_eq_false_iff]
    refine ⟨h2, ?_⟩
    by_cases h4 : q.1 + 1 = x
    · exact Or.inr fun h5 => h3 ⟨h4, h5⟩
    · exact Or.inl h4
theorem lc_set2 {v : Int64} {ls' : Array Slot} (h : lv_has ls' ml ((x, Value.long v) :: (asc ad 0 lv).filter (fun q => !(q.1 == x) && (!(q.1 == x + 1) && !(q.1 + 1 == x && q.2.category == 2))))) : lv_has ls' ml (asc ad 0 (lst lv x (vl v))) := by
  refine lv_mono h fun q hq => ?_
  rcases asc_lst lv 0 x q hq with e | ⟨h1, h2, h3, h6⟩
  · rw [e, Nat.zero_add]; exact List.mem_cons_self
  · rw [Nat.zero_add] at h2 h3 h6
    refine List.mem_cons_of_mem _ (List.mem_filter.mpr ⟨h1, ?_⟩)
    simp only [Bool.and_eq_true, Bool.not_eq_true', beq_eq_false_iff_ne, ne_eq, Bool.and_eq_false_iff]
    refine ⟨h2, h6 rfl, ?_⟩
    by_cases h4 : q.1 + 1 = x
    · exact Or.inr fun h5 => h3 ⟨h4, h5⟩
    · exact Or.inl h4
/-- a store into a row of the world -/
theorem wo_row {c0 n p j z : Nat} {v : Int32} (hc : (c0, n, p) ∈ (cellsL lw)) (hz : z < 2) (ha : aty c0 p = z) : ∃ q0 : Nat, (wo lw ad cs O)[q0]? = some (ad c0 n p, .inl (cs z, aln c0 p, .inl (O c0 n p))) ∧
    ∀ f : Nat → Int32, f = upd (O c0 n p) j v → (wo lw ad cs O).set q0 (ad c0 n p, .inl (cs z, aln c0 p, .inl f)) = wo lw ad cs (up O c0 n p j v) := by
  obtain ⟨q0, hq⟩ := cell_at hc
  obtain ⟨p', rfl⟩ := aty_pos hc (by omega)
  refine ⟨q0, ?_, fun f hf => ?_⟩
  · rw [wo_get hq, cel_int hz ha]
  · subst hf
    rw [← wo_set (ad := ad) (cs := cs) (O := O) (O' := up O c0 n (p' + 1) j v) hq (fun y _ hne => cel_congr (wup_ne hne)), cel_int hz ha, wup_eq]
theorem wo_rowC {c0 n p z sp dp len c1 n1 p1 : Nat} (hc : (c0, n, p) ∈ (cellsL lw)) (hz : z < 2) (ha : aty c0 p = z) : ∃ q0 : Nat, (wo lw ad cs O)[q0]? = some (ad c0 n p, .inl (cs z, aln c0 p, .inl (O c0 n p))) ∧
    (wo lw ad cs O).set q0 (ad c0 n p, .inl (cs z, aln c0 p, .inl (va_cpy (O c1 n1 p1) (O c0 n p) sp dp len))) = wo lw ad cs (cpy O c1 n1 p1 c0 n p sp dp len) := by
  obtain ⟨q0, hq⟩ := cell_at hc
  obtain ⟨p', rfl⟩ := aty_pos hc (by omega)
  refine ⟨q0, ?_, ?_⟩
  · rw [wo_get hq, cel_int hz ha]
  · rw [← wo_set (ad := ad) (cs := cs) (O := O) (O' := cpy O c1 n1 p1 c0 n (p' + 1) sp dp len) hq (fun y _ hne => cel_congr (cpy_ne hne)), cel_int hz ha, cpy_eq]
theorem cel_long {O : Mem_} {c n p : Nat} (h : aty c (p + 1) = 5) : cel ad cs O (c, n, p + 1) = .inl (cs 5, aln c (p + 1), .inr (.inl fun i => rdL O c n (p + 1) i)) := by
  simp only [cel, h]
  rfl
theorem wo_rowL {c0 n p j : Nat} {v : Int64} (hc : (c0, n, p) ∈ (cellsL lw)) (ha : aty c0 p = 5) : ∃ q0 : Nat, (wo lw ad cs O)[q0]? = some (ad c0 n p, .inl (cs 5, aln c0 p, .inr (.inl fun i => rdL O c0 n p i))) ∧
    (wo lw ad cs O).set q0 (ad c0 n p, .inl (cs 5, aln c0 p, .inr (.inl (vp_updL (fun i => rdL O c0 n p i) j v)))) = wo lw ad cs (upL O c0 n p j v) := by
  obtain ⟨q0, hq⟩ := cell_at hc
  obtain ⟨p', rfl⟩ := aty_pos hc (by omega)
  refine ⟨q0, ?_, ?_⟩
  · rw [wo_get hq, cel_long ha]
  · rw [← wo_set (ad := ad) (cs := cs) (O := O) (O' := upL O c0 n (p' + 1) j v) hq (fun y _ hne => cel_congr (upL_ne hne)), cel_long ha]
    have e : vp_updL (fun i => rdL O c0 n (p' + 1) i) j v = fun i => rdL (upL O c0 n (p' + 1) j v) c0 n (p' + 1) i := by
      funext k
      rw [rdL_up]
      rfl
    rw [e]
theorem ty_at {z : Nat} (hz : z < 2) : (tyL cs)[z]? = some (cs z, if z = 0 then .int else .boolean) := by
  match z, hz with
  | 0, _ => rfl
  | 1, _ => rfl
theorem upL8 {c0 n p j : Nat} {v : Int64} (h : c0 < 8) : upL O c0 n p j v 8 = O 8 := by
  funext a b d
  unfold upL up
  rw [if_neg (by omega), if_neg (by omega)]
theorem up8 {c0 n p j : Nat} {v : Int32} (h : c0 < 8) : up O c0 n p j v 8 = O 8 := by
  funext a b d
  unfold up
  rw [if_neg (by omega)]
theorem cpy8 {c1 n1 p1 c0 n p sp dp len : Nat} (h : c0 < 8) : cpy O c1 n1 p1 c0 n p sp dp len 8 = O 8 := by
  funext a b d
  unfold cpy
  rw [if_neg (by omega)]
theorem bool_nar {a : Int32} (h : a = 0 ∨ a = 1) : narrow .boolean (.int a) = .int a ∧ fits .boolean (.int a) = true ∧ vp_nar .boolean a = a := by
  rcases h with rfl | rfl <;> decide +kernel
end SND
