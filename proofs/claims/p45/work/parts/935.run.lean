/-! THE MACHINE DOES WHAT THE ABSTRACT ONE DOES: a run; every method keeps its contract. -/
theorem lk1_in : ∀ (l : List (Nat × E_)) (pc : Nat), (pc, lk1 l pc) ∈ l ∨ lk1 l pc = (.nop, 0, 0, 0, 0, 0, 0)
  | [], _ => Or.inr rfl
  | (q, e) :: l, pc => by
    cases h : q.beq pc with
    | true =>
      obtain rfl := Nat.eq_of_beq_eq_true h
      left
      show (q, bif q.beq q then e else lk1 l q) ∈ _
      rw [h]
      exact List.mem_cons_self
    | false =>
      have hq : lk1 ((q, e) :: l) pc = lk1 l pc := by
        show (bif q.beq pc then e else lk1 l pc) = _
        rw [h]; rfl
      rw [hq]
      rcases lk1_in l pc with h1 | h1
      · exact Or.inl (List.mem_cons_of_mem _ h1)
      · exact Or.inr h1
theorem lk_in (tb : List (List (Nat × E_))) (pc : Nat) : (∃ r ∈ tb, (pc, lk tb pc) ∈ r) ∨ lk tb pc = (.nop, 0, 0, 0, 0, 0, 0) := by
  rcases lk1_in (tb.getD (pc / 32) []) pc with h | h
  · left
    refine ⟨tb.getD (pc / 32) [], ?_, h⟩
    rw [List.getD_eq_getElem?_getD] at h ⊢
    cases hq : tb[pc / 32]? with
    | none => rw [hq] at h; cases h
    | some r => exact List.mem_of_getElem? hq
  · exact Or.inr h
def chkT (own : String) (cb : ByteArray) (ml : Nat) (rt : Option FieldType) (tb : List (List (Nat × E_))) : Bool := tb.all fun l => l.all fun q => chkE own cb ml rt q
theorem chk_lk {own : String} {cb : ByteArray} {ml pc : Nat} {rt : Option FieldType} {tb : List (List (Nat × E_))} (h : chkT own cb ml rt tb = true) : chkE own cb ml rt (pc, lk tb pc) = true ∨ lk tb pc = (.nop, 0, 0, 0, 0, 0, 0) := by
  rcases lk_in tb pc with ⟨r, h1, h2⟩ | h1
  · exact Or.inl (List.all_eq_true.mp (List.all_eq_true.mp h r h1) _ h2)
  · exact Or.inr h1
section SNDR
variable {p : Program} {l : Launch} {e : Env} {R : Room} {s : State} {m : MethodId} {args : Array Value} {below : List Frame} {meth : Method} {c : Code} {cells slots : Nat} {Q : State → Prop}
variable {D : va_G} {ad : AD_} {cs : Nat → ClassId} {adV : Nat → Nat} {A : Nat → Prop} {O0 : Mem_} {lw : Nat} {ml : Nat} {res : Rs_} {own : String} {cb : ByteArray} {rt : Option FieldType}
variable {f : Nat → Nat → Lv_ → List V_ → Mem_ → Option Rs_} {rm : Room}
theorem snd_run {tb : List (List (Nat × E_))} {ct : List (Nat × List Bool)} (F : Fr p s m args c own cb ml) (E : Ev D ad cs adV A s) (hin : Inj_ lw ad A) (hsc : Scr ad A s O0) (hcall : CallOK l f rm D lw ad cs adV) (hjdk : JdkOK l rm D lw ad cs adV)
    (hk8 : ∀ (x : Nat) (a : List V_) (O : Mem_) (r : Rs_), f x 0 (lay a) [] O = some r → r.2 8 = O 8) (hrm : rm.cells = 0 ∧ rm.slots = 0 ∧ rm.frames + 1 ≤ R.frames ∧ 39 + rm.locals ≤ R.locals) (hR : 1 ≤ R.frames ∧ 100 ≤ R.locals ∧ cells ≤ R.cells ∧ slots ≤ R.slots)
    (hck : chkT own cb ml rt tb = true)
    (hfi : ∀ (pc : Nat) (ls : Array Slot) (H : Heap) (locs : List Loc) (a : Int32) (O' : Mem_), decode cb pc = .ok (.ireturn, 1) → (rt = some .int ∨ (rt = some .boolean ∧ (a = 0 ∨ a = 1))) → res = (a, O') → va_P D vwCl (wo lw ad cs O') H → va_S A s.heap H locs → W p l e R s m args below meth c H locs cells slots Q (F0 m pc ls [.int a]))
    (hfv : ∀ (pc : Nat) (ls : Array Slot) (H : Heap) (locs : List Loc) (O' : Mem_), decode cb pc = .ok (.return_, 1) → rt = none → res = (0, O') → va_P D vwCl (wo lw ad cs O') H → va_S A s.heap H locs → W p l e R s m args below meth c H locs cells slots Q (F0 m pc ls []))
    (hfn : ∀ (ls : Array Slot) (H : Heap) (locs : List Loc) (O' : Mem_), decode cb 305 = .ok (.newarray .int, 2) → ml = 28 → res = (nI 7, O') → va_P D vwCl (wo lw ad cs O') H → va_S A s.heap H locs → lv_has ls ml ((hLv.zipIdx 0).map fun q => (q.2, Value.ref (ad q.1.1 0 q.1.2))) → W p l e R s m args below meth c H locs cells slots Q (F0 m 305 ls [.int (nI 60)])) :
    ∀ n : Nat, GoW p l e R s m args below meth c cells slots Q D ad cs A O0 lw ml res (rn_ swT_ (cl_ f) tb ct n) := by
  intro n
  induction n with
  | zero =>
    intro pc lv st O H locs ls h
    cases h
  | succ n ih =>
    intro pc lv st O H locs ls h h8 hlv hst hP hS hl
    have h : stp swT_ (cl_ f) (lk tb pc) pc lv st O (fun pc lv st O => rn_ swT_ (cl_ f) tb ct n pc (ctl ct pc lv) st O) = some res := h
    rcases chk_lk (pc := pc) hck with hq | hq
    · refine snd_stp F E hin hsc hcall hjdk hk8 hrm hR hq hfi hfv hfn ?_ h h8 hlv hst hP hS hl
      intro pc lv st O H locs ls h h8 hlv hst hP hS hl
      exact ih _ _ _ _ _ _ _ h h8 (ok_ctl hlv) hst hP hS (lv_mono hl asc_ctl)
    · rw [hq] at h
      cases h
end SNDR
/-- no run changes the script -/
def k8 (go : Go_) : Prop := ∀ (pc : Nat) (lv : Lv_) (st : List V_) (O : Mem_) (r : Rs_), go pc lv st O = some r → r.2 8 = O 8
theorem intr8 {x : Nat} {a : List V_} {O : Mem_} {r : Rs_} (h : intr x a O = some r) : r.2 8 = O 8 := by
  by_cases hx : x = 1000
  · subst hx
    obtain ⟨c0, n0, p0, sp, c, n, p, dp, k, rfl, h1, h2, -, -, rfl⟩ := intr_copy h
    exact cpy8 (aty_lt (p := p) (by omega))
  · by_cases hx3 : x = 1003
    · subst hx3
      obtain ⟨_, _, rfl⟩ := intr_len h
      rfl
    · by_cases hx4 : x = 1004
      · subst hx4
        obtain ⟨_, _, _, _, rfl⟩ := intr_at h
        rfl
      · unfold intr at h
        split at h
        · exact absurd rfl hx
        · cases h; rfl
        · cases h; rfl
        · exact absurd rfl hx3
        · exact absurd rfl hx4
        · cases h
theorem inv8 {call : Cl_} {virt : Bool} {x y z pc : Nat} {lv : Lv_} {st : List V_} {O : Mem_} {go : Go_} {res : Rs_} (hc : ∀ (x : Nat) (a : List V_) (O : Mem_) (r : Rs_), call x a O = some r → r.2 8 = O 8) (hg : k8 go) (h : inv call virt x y z pc lv st O go = some res) : res.2 8 = O 8 := by
  obtain ⟨a, t, r, rfl, -, -, -, -, hr, hq9⟩ := inv_s h
  have h1 := hc _ _ _ _ hr
  cases z with
  | zero => exact (hg _ _ _ _ _ hq9).trans h1
  | succ z => exact (hg _ _ _ _ _ hq9).trans h1
theorem jmp_s {cd : ClassFile.Cond} {a b : Int32} {t f : Option Rs_} {r : Rs_} (h : jmp cd a b t f = some r) : t = some r ∨ f = some r := by
  cases cd <;> (simp only [jmp] at h; split at h <;> first | exact Or.inl h | exact Or.inr h)
set_option maxHeartbeats 4000000 in
theorem stp8 {call : Cl_} {en : E_} {own : String} {ml : Nat} {rt : Option FieldType} {pc : Nat} {lv : Lv_} {st : List V_} {O : Mem_} {go : Go_} {res : Rs_} (hc : ∀ (x : Nat) (a : List V_) (O : Mem_) (r : Rs_), call x a O = some r → r.2 8 = O 8) (hg : k8 go) (h2 : chk2 own ml rt pc en = true) (h : stp swT_ call en pc lv st O go = some res) : res.2 8 = O 8 := by
  obtain ⟨ins, len, x, y, z, k, kl⟩ := en
  cases ins
  case ldc i =>
    have h : (bif z.beq 0 then go (pc + 2) lv (vi k :: st) O else go (pc + 2) lv (vr 9 x 0 :: st) O) = some res := h
    cases hz : z.beq 0 <;> rw [hz] at h <;> exact hg _ _ _ _ _ h
  case idiv =>
    obtain ⟨a, b, t, rfl, hq9⟩ := pII_s h
    clear h
    have h := hq9
    split at h
    · cases h
    · exact hg _ _ _ _ _ h
  case lrem =>
    obtain ⟨a, b, t, rfl, hq9⟩ := pLL_s h
    clear h
    have h := hq9
    split at h
    · cases h
    · exact hg _ _ _ _ _ h
  case laload =>
    obtain ⟨c9, n9, q9, i, t, rfl, hq9⟩ := pRI_s h
    clear h
    have h := hq9
    cases ht9 : (aty c9 q9).beq 5 with
    | false => rw [ht9] at h; cases h
    | true =>
      rw [ht9] at h
      have h : (if ib i (aln c9 q9) then go (pc + 1) lv (vl (rdL O c9 n9 q9 i.toNatClampNeg) :: t) O else none) = some res := h
      split at h
      · exact hg _ _ _ _ _ h
      · cases h
  case lastore =>
    obtain ⟨c9, n9, q9, i, v, t, rfl, hq9⟩ := pRIL_s h
    clear h
    have h := hq9
    cases ht9 : (aty c9 q9).beq 5 with
    | false => rw [ht9] at h; cases h
    | true =>
      rw [ht9] at h
      have ht := Nat.eq_of_beq_eq_true ht9
      have h : (if ib i (aln c9 q9) then go (pc + 1) lv t (upL O c9 n9 q9 i.toNatClampNeg v) else none) = some res := h
      split at h
      · exact (hg _ _ _ _ _ h).trans (upL8 (aty_lt (p := q9) (by omega)))
      · cases h
  case newarray ty =>
    cases st with
    | nil => cases h
    | cons v t =>
      rcases v with a | a
      · cases t with
        | cons w t => cases h
        | nil =>
          have hgo : (bif pc.beq 305 && hlt hLv lv then (if a = nI 60 then some (nI 7, O) else none) else none) = some res := h
          clear h
          cases hq : (pc.beq 305 && hlt hLv lv) with
          | false => rw [hq] at hgo; cases hgo
          | true =>
            rw [hq] at hgo
            have hgo : (if a = nI 60 then some (nI 7, O) else none) = some res := hgo
            split at hgo
            · cases hgo; rfl
            · cases hgo
      · cases h
  case irem =>
    obtain ⟨a, b, t, rfl, hq9⟩ := pII_s h
    clear h
    have h := hq9
    split at h
    · cases h
    · exact hg _ _ _ _ _ h
  case dup =>
    cases st with
    | nil => cases h
    | cons v t =>
      rcases v with a | a | ⟨c9, n9, q9⟩
      · exact hg _ _ (vi a :: vi a :: t) _ _ h
      · cases h
      · exact hg _ _ (vr c9 n9 q9 :: vr c9 n9 q9 :: t) _ _ h
  case ifCond cd o =>
    obtain ⟨a, t, rfl, hq9⟩ := pI_s h
    clear h
    have h := hq9
    rcases jmp_s h with h | h <;> exact hg _ _ _ _ _ h
  case if_icmp cd o =>
    obtain ⟨a, b, t, rfl, hq9⟩ := pII_s h
    clear h
    have h := hq9
    rcases jmp_s h with h | h <;> exact hg _ _ _ _ _ h
  case tableswitch d lo hi offs =>
    obtain ⟨a, t, rfl, hq9⟩ := pI_s h
    clear h
    have h := hq9
    rcases swg_s (a := a) (g := fun q => go q lv t O) (swT_ x).1 (swT_ x).2 with ⟨j, q, -, e⟩ | ⟨-, e⟩ <;> rw [e] at h <;> exact hg _ _ _ _ _ h
  case lookupswitch d ps =>
    obtain ⟨a, t, rfl, hq9⟩ := pI_s h
    clear h
    have h := hq9
    rcases swg_s (a := a) (g := fun q => go q lv t O) (swT_ x).1 (swT_ x).2 with ⟨j, q, -, e⟩ | ⟨-, e⟩ <;> rw [e] at h <;> exact hg _ _ _ _ _ h
  case getfield i =>
    obtain ⟨c9, n9, q9, t, rfl, hq9⟩ := pR_s h
    clear h
    have h := hq9
    cases hb9 : (c9.beq x && q9.beq 0) <;> rw [hb9] at h
    · cases h
    · exact hg _ _ _ _ _ h
  case putfield i =>
    simp only [chk2, Bool.and_eq_true, decide_eq_true_eq] at h2
    obtain ⟨⟨⟨-, hx8, -⟩, -⟩, -⟩ := h2
    obtain ⟨c9, n9, q9, v9, t, rfl, hq9⟩ := pRV_s h
    clear h
    have h := hq9
    cases hb9 : (c9.beq x && q9.beq 0) with
    | false => rw [hb9] at h; cases h
    | true =>
      rw [hb9] at h
      rw [Bool.and_eq_true] at hb9
      obtain rfl := Nat.eq_of_beq_eq_true hb9.1
      rw [cond_true] at h
      split at h
      · exact (hg _ _ _ _ _ h).trans (up8 (by omega))
      · split at h
        · exact (hg _ _ _ _ _ h).trans (up8 (by omega))
        · cases h
      · rename_i c2 n2 p2
        cases hb8 : (c2.beq 4 && p2.beq 0) <;> rw [hb8] at h
        · cases h
        · exact (hg _ _ _ _ _ h).trans (up8 (by omega))
      · cases h
  case iaload =>
    obtain ⟨c9, n9, q9, i, t, rfl, hq9⟩ := pRI_s h
    clear h
    have h := hq9
    cases h89 : c9.beq 8 with
    | true =>
      rw [h89] at h
      have h : (if ib i (O 8 0 1 0).toNatClampNeg then go (pc + 1) lv (vi (O 8 0 0 i.toNatClampNeg) :: t) O else none) = some res := h
      split at h
      · exact hg _ _ _ _ _ h
      · cases h
    | false =>
      rw [h89] at h
      cases ht9 : (aty c9 q9).beq 0 with
      | false => rw [ht9] at h; cases h
      | true =>
        rw [ht9] at h
        have h : (if ib i (aln c9 q9) then go (pc + 1) lv (vi (O c9 n9 q9 i.toNatClampNeg) :: t) O else none) = some res := h
        split at h
        · exact hg _ _ _ _ _ h
        · cases h
  case baload =>
    obtain ⟨c9, n9, q9, i, t, rfl, hq9⟩ := pRI_s h
    clear h
    have h := hq9
    cases ht9 : (aty c9 q9).beq 1 with
    | false => rw [ht9] at h; cases h
    | true =>
      rw [ht9] at h
      have h : (if ib i (aln c9 q9) then go (pc + 1) lv (vi (O c9 n9 q9 i.toNatClampNeg) :: t) O else none) = some res := h
      split at h
      · exact hg _ _ _ _ _ h
      · cases h
  case aaload =>
    obtain ⟨c9, n9, q9, i, t, rfl, hq9⟩ := pRI_s h
    clear h
    have h := hq9
    cases ht9 : (Nat.blt 1 (aty c9 q9) && (aty c9 q9).blt 5) with
    | false => rw [ht9] at h; cases h
    | true =>
      rw [ht9] at h
      have h : (if ib i (aln c9 q9) then go (pc + 1) lv (aref c9 n9 q9 i.toNatClampNeg :: t) O else none) = some res := h
      split at h
      · exact hg _ _ _ _ _ h
      · cases h
  case iastore =>
    obtain ⟨c9, n9, q9, i, v, t, rfl, hq9⟩ := pRII_s h
    clear h
    have h := hq9
    cases ht9 : (aty c9 q9).beq 0 with
    | false => rw [ht9] at h; cases h
    | true =>
      rw [ht9] at h
      have ht := Nat.eq_of_beq_eq_true ht9
      have h : (if ib i (aln c9 q9) then go (pc + 1) lv t (up O c9 n9 q9 i.toNatClampNeg v) else none) = some res := h
      split at h
      · exact (hg _ _ _ _ _ h).trans (up8 (aty_lt (p := q9) (by omega)))
      · cases h
  case bastore =>
    obtain ⟨c9, n9, q9, i, v, t, rfl, hq9⟩ := pRII_s h
    clear h
    have h := hq9
    cases ht9 : (aty c9 q9).beq 1 with
    | false => rw [ht9] at h; cases h
    | true =>
      rw [ht9] at h
      have ht := Nat.eq_of_beq_eq_true ht9
      have h : (if ib i (aln c9 q9) then (if v = 0 ∨ v = 1 then go (pc + 1) lv t (up O c9 n9 q9 i.toNatClampNeg v) else none) else none) = some res := h
      split at h
      · split at h
        · exact (hg _ _ _ _ _ h).trans (up8 (aty_lt (p := q9) (by omega)))
        · cases h
      · cases h
  case arraylength =>
    obtain ⟨c9, n9, q9, t, rfl, hq9⟩ := pR_s h
    clear h
    have h := hq9
    cases h89 : c9.beq 8 <;> rw [h89] at h
    · cases h
    · exact hg _ _ _ _ _ h
  case invokevirtual i => exact inv8 hc hg h
  case invokestatic i => exact inv8 hc hg h
  case ireturn =>
    cases st with
    | nil => cases h
    | cons v t =>
      rcases v with a | a
      · cases t with
        | cons w t => cases h
        | nil =>
          have hgo : (bif z.beq 0 then some (a, O) else if a = 0 ∨ a = 1 then some (a, O) else none) = some res := h
          clear h
          cases hz : z.beq 0 with
          | true => rw [hz] at hgo; cases hgo; rfl
          | false =>
            rw [hz, cond_false] at hgo
            split at hgo
            · cases hgo; rfl
            · cases hgo
      · cases h
  case return_ =>
    cases st with
    | nil => cases h; rfl
    | cons v t => cases h
  all_goals first
    | (exact absurd h (by intro q; cases q))
    | exact hg _ _ _ _ _ h
    | (obtain ⟨a, t, rfl, hq9⟩ := pI_s h; exact hg _ _ _ _ _ hq9)
    | (obtain ⟨a, b, t, rfl, hq9⟩ := pII_s h; exact hg _ _ _ _ _ hq9)
    | (obtain ⟨a, t, rfl, hq9⟩ := pL_s h; exact hg _ _ _ _ _ hq9)
    | (obtain ⟨a, b, t, rfl, hq9⟩ := pLL_s h; exact hg _ _ _ _ _ hq9)
    | (obtain ⟨a, b, t, rfl, hq9⟩ := pLI_s h; exact hg _ _ _ _ _ hq9)
    | (obtain ⟨c9, n9, q9, t, rfl, hq9⟩ := pR_s h; exact hg _ _ _ _ _ hq9)
    | (obtain ⟨c9, n9, q9, a, t, rfl, hq9⟩ := pRI_s h; exact hg _ _ _ _ _ hq9)
    | (obtain ⟨a, ha, h⟩ := gI_s h; exact hg _ _ _ _ _ h)
    | (obtain ⟨a, ha, h⟩ := gL_s h; exact hg _ _ _ _ _ h)
    | (obtain ⟨c9, n9, q9, ha, h⟩ := gR_s h; exact hg _ _ _ _ _ h)
theorem chk_any (x : Nat) : ∃ rt : Option FieldType, chkM x rt = true := by
  rcases Nat.lt_or_ge x 218 with h | h
  · exact ⟨_, ckA_c218 x h⟩
  · rcases Nat.eq_or_lt_of_le h with rfl | h
    · exact ⟨_, ck_218⟩
    · refine ⟨none, ?_⟩
      have h0 : tbs_.getD x [] = [] := by
        rw [List.getD_eq_getElem?_getD, List.getElem?_eq_none (show tbs_.length ≤ x from h)]
        rfl
      unfold chkM
      rw [h0]
      rfl
theorem rn8 {f : Nat → Nat → Lv_ → List V_ → Mem_ → Option Rs_} (hf : ∀ (x : Nat) (a : List V_) (O : Mem_) (r : Rs_), f x 0 (lay a) [] O = some r → r.2 8 = O 8) (x : Nat) : ∀ n : Nat, k8 (rn_ swT_ (cl_ f) (tbs_.getD x []) (cts_.getD x []) n)
  | 0 => fun pc lv st O r h => by cases h
  | n + 1 => fun pc lv st O r h => by
    have h : stp swT_ (cl_ f) (lk (tbs_.getD x []) pc) pc lv st O (fun pc lv st O => rn_ swT_ (cl_ f) (tbs_.getD x []) (cts_.getD x []) n pc (ctl (cts_.getD x []) pc lv) st O) = some r := h
    obtain ⟨rt, hck⟩ := chk_any x
    rcases chk_lk (pc := pc) (show chkT (mcl x).1.cls (mcl x).2.1 (mcl x).2.2.1 rt (tbs_.getD x []) = true from hck) with hq | hq
    · refine stp8 (fun x a O r hx => ?_) (fun pc lv st O r h => rn8 hf x n pc _ st O r h) ((Bool.and_eq_true _ _).mp hq).2 h
      unfold cl_ at hx
      cases hb : x.blt 1000 with
      | true => rw [hb] at hx; exact hf _ _ _ _ hx
      | false => rw [hb] at hx; exact intr8 hx
    · rw [hq] at h
      cases h
theorem ex8 : ∀ (d x : Nat), k8 (ex d x)
  | 0, x => fun pc lv st O r h => by cases h
  | d + 1, x => fun pc lv st O r h => by
    obtain ⟨n, hn⟩ := (lim_some (fun n m r h hr => rn_le h hr)).mp h
    exact rn8 (fun y a O r hy => ex8 d y 0 (lay a) [] O r hy) x n _ _ _ _ _ hn
abbrev rmD (d : Nat) : Room := { frames := d + 3, cells := 0, slots := 0, locals := 40 * d + 100 }
theorem met_ex {l : Launch} {D : va_G} {lw : Nat} {ad : AD_} {cs : Nat → ClassId} {adV : Nat → Nat} (hin : Inj_ lw ad (Aw lw ad)) (hjdk : ∀ d : Nat, JdkOK l (rmD d) D lw ad cs adV) : ∀ d : Nat, CallOK l (ex d) (rmD d) D lw ad cs adV
  | 0 => fun x a O r _ h => by cases h
  | d + 1 => by
    intro x a O r hx h hok hlen
    have hm : mwk x = true := by
      cases hq : mws_.getD x [] with
      | cons a9 l9 => exact mkA_c218 hx (k := l9.length) (by rw [hq]; rfl)
      | nil =>
        exfalso
        have h0 := meA_no hx hq
        have h9 : ex (d + 1) x 0 (lay a) [] O = none := by
          unfold ex
          rw [ex_eq, h0]
          rfl
        rw [h9] at h
        cases h
    refine Met.ofW (cc := (mcl x).2.1) (maxL := (mcl x).2.2.1) (ret := (mcl x).2.2.2) (mwk_s hm).1 rfl ?_
    intro p e s m args below meth c s₁ B hml hv
    obtain ⟨rfl, hP, E, hsc⟩ := hv
    have hts := atoms_spec (ws := mwd x) B.pre
    have F : Fr p s m (a.map (cv ad)).toArray c (mcl x).1.cls (mcl x).2.1 (mcl x).2.2.1 := ⟨B.exec, B.bytes, hml, findClass_of_methodNamed B.named, fun w hw => hts w (List.mem_cons_of_mem _ hw)⟩
    have hr := B.returns
    have hlocks := B.notSynchronized
    have hl := lv_entry (a.map (cv ad)) (n := (mcl x).2.2.1) (by rw [lay_len]; exact hlen)
    rw [lg_entry_eq]
    generalize (lg_sl (a.map (cv ad)) ++ List.replicate ((mcl x).2.2.1 - (lg_sl (a.map (cv ad))).length) Slot.unset).toArray = ls at hl ⊢
    rw [← asc_lay] at hl
    obtain ⟨n, hn⟩ := (lim_some (fun n m r h hr => rn_le h hr)).mp h
    refine snd_run (lw := lw) (A := Aw lw ad) (O0 := O) (tb := tbs_.getD x []) (ct := cts_.getD x []) (rt := (mcl x).2.2.2) (res := r) F E hin hsc (met_ex hin hjdk d) (hjdk d) (fun y a O r hy => ex8 d y 0 (lay a) [] O r hy) ⟨rfl, rfl, Nat.le_refl _, ?_⟩ ⟨?_, ?_, Nat.zero_le _, Nat.zero_le _⟩ (ckA_c218 x hx) ?_ ?_ ?_ n 0 (lay a) [] O s.heap [] ls hn rfl (ok_lay _ hok) (fun v hv => by cases hv) hP va_S.rf hl
    · show 39 + (40 * d + 100) ≤ 40 * (d + 1) + 100
      omega
    · show 1 ≤ d + 1 + 3
      omega
    · show 100 ≤ 40 * (d + 1) + 100
      omega
    · intro pc ls H locs v O' hdg hrt hres hP' hS'
      subst hres
      rcases hrt with hrt | ⟨hrt, hv⟩
      · refine W.iret B.exec B.bytes (hr.trans hrt) (fun t ht _ => ?_) hS'.2.2 hdg hlocks
        rw [hrt]
        exact ⟨⟨v, (), rfl, rfl, by show va_P D vwCl (wo lw ad cs O') t.heap; rw [ht]; exact hP'⟩, hS'.F ht⟩
      · refine W.zret B.exec B.bytes (hr.trans hrt) (bool_nar hv).1 (fun t ht _ => ?_) hS'.2.2 hdg hlocks
        rw [hrt]
        exact ⟨⟨v, (), rfl, rfl, by show va_P D vwCl (wo lw ad cs O') t.heap; rw [ht]; exact hP'⟩, hS'.F ht⟩
    · intro pc ls H locs O' hdg hrt hres hP' hS'
      subst hres
      refine W.vret B.exec B.bytes (hr.trans hrt) (fun t ht _ => ?_) hS'.2.2 hdg hlocks
      rw [hrt]
      exact ⟨⟨(), rfl, trivial, by show va_P D vwCl (wo lw ad cs O') t.heap; rw [ht]; exact hP'⟩, hS'.F ht⟩
    · intro ls H locs O' _ h28
      have := (mwk_s hm).2.2.2
      omega
