section SND2
variable {p : Program} {l : Launch} {e : Env} {R : Room} {s : State} {m : MethodId} {args : Array Value} {below : List Frame} {meth : Method} {c : Code} {cells slots : Nat} {Q : State → Prop}
variable {D : va_G} {ad : AD_} {cs : Nat → ClassId} {adV : Nat → Nat} {A : Nat → Prop} {O0 : Mem_} {lw : Nat} {ml : Nat} {res : Rs_} {go : Go_} {own : String} {cb : ByteArray} {rt : Option FieldType}
variable {f : Nat → Nat → Lv_ → List V_ → Mem_ → Option Rs_} {rm : Room}
variable {pc len x y z : Nat} {k : Int32} {kl : Int64} {lv : Lv_} {st : List V_} {O : Mem_} {H : Heap} {locs : List Loc} {ls : Array Slot}
theorem told_two_ : ∀ lw, lw < 10 → ∀ x ∈ cellsL lw, x.1 = 4 → x.2.1 = 0 ∨ x.2.1 = 1 := by decide +kernel
theorem told_two {lw n : Nat} (h : (4, n, 0) ∈ cellsL lw) : n = 0 ∨ n = 1 := by
  rw [cellsL_min] at h
  exact told_two_ _ (by omega) _ h rfl
theorem pRIL_s {st : List V_} {g : Nat → Nat → Nat → Int32 → Int64 → List V_ → Option Rs_} {r : Rs_} (h : pRIL st g = some r) : ∃ c n q i v s, st = vl v :: vi i :: vr c n q :: s ∧ g c n q i v s = some r := by
  unfold pRIL at h; split at h
  · exact ⟨_, _, _, _, _, _, rfl, h⟩
  · cases h
theorem swg_look {a : Int32} {g : Nat → Option Rs_} {pc d : Nat} {dd : Int} (hd : (pc : Int) + dd = (d : Int)) : ∀ (ps : List (Int × Int)) (t : List (Int32 × Nat)), ps.map (fun q => (q.1, (pc : Int) + q.2)) = t.map (fun q => (q.1.toInt, (q.2 : Int))) → ∃ q : Nat, (pc : Int) + Op.lookupswitch.offset ps dd a.toInt = (q : Int) ∧ swg a t d g = g q
  | [], [], _ => ⟨d, hd, rfl⟩
  | [], _ :: _, h => by cases h
  | _ :: _, [], h => by cases h
  | (k, o) :: ps, (k', q) :: t, h => by
    rw [List.map_cons, List.map_cons] at h
    obtain ⟨h1, h2⟩ := List.cons.inj h
    have h3 : k = k'.toInt := (Prod.mk.inj h1).1
    have h4 : (pc : Int) + o = (q : Int) := (Prod.mk.inj h1).2
    rw [Op.lookupswitch.offset_cons]
    by_cases hk : a = k'
    · subst hk
      refine ⟨q, ?_, by simp [swg]⟩
      rw [if_pos (by rw [h3])]
      exact h4
    · obtain ⟨q', e1, e2⟩ := swg_look (a := a) (g := g) hd ps t h2
      refine ⟨q', ?_, by simp [swg, hk, e2]⟩
      rw [if_neg]
      · exact e1
      · intro z
        exact hk (Int32.toInt_inj.mp (by rw [← h3]; exact z.symm))
set_option maxHeartbeats 8000000 in
theorem snd_stp {en : E_} (F : Fr p s m args c own cb ml) (E : Ev D ad cs adV A s) (hin : Inj_ lw ad A) (hsc : Scr ad A s O0) (hcall : CallOK l f rm D lw ad cs adV) (hjdk : JdkOK l rm D lw ad cs adV)
    (hk8 : ∀ (x : Nat) (a : List V_) (O : Mem_) (r : Rs_), f x 0 (lay a) [] O = some r → r.2 8 = O 8) (hrm : rm.cells = 0 ∧ rm.slots = 0 ∧ rm.frames + 1 ≤ R.frames ∧ 39 + rm.locals ≤ R.locals) (hR : 1 ≤ R.frames ∧ 100 ≤ R.locals ∧ cells ≤ R.cells ∧ slots ≤ R.slots)
    (hdec : chkE own cb ml rt (pc, en) = true)
    (hfi : ∀ (pc : Nat) (ls : Array Slot) (H : Heap) (locs : List Loc) (a : Int32) (O' : Mem_), decode cb pc = .ok (.ireturn, 1) → (rt = some .int ∨ (rt = some .boolean ∧ (a = 0 ∨ a = 1))) → res = (a, O') → va_P D vwCl (wo lw ad cs O') H → va_S A s.heap H locs → W p l e R s m args below meth c H locs cells slots Q (F0 m pc ls [.int a]))
    (hfv : ∀ (pc : Nat) (ls : Array Slot) (H : Heap) (locs : List Loc) (O' : Mem_), decode cb pc = .ok (.return_, 1) → rt = none → res = (0, O') → va_P D vwCl (wo lw ad cs O') H → va_S A s.heap H locs → W p l e R s m args below meth c H locs cells slots Q (F0 m pc ls []))
    (hfn : ∀ (ls : Array Slot) (H : Heap) (locs : List Loc) (O' : Mem_), decode cb 305 = .ok (.newarray .int, 2) → ml = 28 → res = (nI 7, O') → va_P D vwCl (wo lw ad cs O') H → va_S A s.heap H locs → lv_has ls ml ((hLv.zipIdx 0).map fun q => (q.2, Value.ref (ad q.1.1 0 q.1.2))) → W p l e R s m args below meth c H locs cells slots Q (F0 m 305 ls [.int (nI 60)]))
    (IH : GoW p l e R s m args below meth c cells slots Q D ad cs A O0 lw ml res go)
    (h : stp swT_ (cl_ f) en pc lv st O go = some res) (h8 : O 8 = O0 8) (hlv : okL lw lv) (hst : okS lw st) (hP : va_P D vwCl (wo lw ad cs O) H) (hS : va_S A s.heap H locs) (hl : lv_has ls ml (asc ad 0 lv)) :
    W p l e R s m args below meth c H locs cells slots Q (F0 m pc ls (st.map (cv ad))) := by
  obtain ⟨ins, len, x, y, z, k, kl⟩ := en
  obtain ⟨hx, hb, hml, hown, hts⟩ := id F
  have hd : decode cb pc = .ok (ins, len) := by
    have h1 := (Bool.and_eq_true _ _).mp hdec
    have h1 := h1.1
    revert h1
    dsimp only
    split
    · rename_i i l9 hq
      intro h1
      obtain ⟨rfl, rfl⟩ := of_decide_eq_true h1
      exact hq
    · intro h1; cases h1
  have h2 : chk2 own ml rt pc (ins, len, x, y, z, k, kl) = true := ((Bool.and_eq_true _ _).mp hdec).2
  clear hdec
  cases ins
  case iadd =>
    obtain rfl : len = 1 := of_decide_eq_true h2
    obtain ⟨a, b, t, rfl, hq9⟩ := pII_s h
    clear h
    have h := hq9
    exact lv_iadd (x := a) (y := b) (rest := t.map (cv ad)) hx hb hd (IH _ _ _ _ _ _ _ h h8 hlv (okS_cons trivial (okS_tl (okS_tl hst))) hP hS hl)
  case isub =>
    obtain rfl : len = 1 := of_decide_eq_true h2
    obtain ⟨a, b, t, rfl, hq9⟩ := pII_s h
    clear h
    have h := hq9
    exact lv_isub (x := a) (y := b) (rest := t.map (cv ad)) hx hb hd (IH _ _ _ _ _ _ _ h h8 hlv (okS_cons trivial (okS_tl (okS_tl hst))) hP hS hl)
  case imul =>
    obtain rfl : len = 1 := of_decide_eq_true h2
    obtain ⟨a, b, t, rfl, hq9⟩ := pII_s h
    clear h
    have h := hq9
    exact lv_imul (x := a) (y := b) (rest := t.map (cv ad)) hx hb hd (IH _ _ _ _ _ _ _ h h8 hlv (okS_cons trivial (okS_tl (okS_tl hst))) hP hS hl)
  case iand =>
    obtain rfl : len = 1 := of_decide_eq_true h2
    obtain ⟨a, b, t, rfl, hq9⟩ := pII_s h
    clear h
    have h := hq9
    exact lv_iand (x := a) (y := b) (rest := t.map (cv ad)) hx hb hd (IH _ _ _ _ _ _ _ h h8 hlv (okS_cons trivial (okS_tl (okS_tl hst))) hP hS hl)
  case ior =>
    obtain rfl : len = 1 := of_decide_eq_true h2
    obtain ⟨a, b, t, rfl, hq9⟩ := pII_s h
    clear h
    have h := hq9
    exact lv_ior (x := a) (y := b) (rest := t.map (cv ad)) hx hb hd (IH _ _ _ _ _ _ _ h h8 hlv (okS_cons trivial (okS_tl (okS_tl hst))) hP hS hl)
  case ixor =>
    obtain rfl : len = 1 := of_decide_eq_true h2
    obtain ⟨a, b, t, rfl, hq9⟩ := pII_s h
    clear h
    have h := hq9
    exact lv_ixor (x := a) (y := b) (rest := t.map (cv ad)) hx hb hd (IH _ _ _ _ _ _ _ h h8 hlv (okS_cons trivial (okS_tl (okS_tl hst))) hP hS hl)
  case ishl =>
    obtain rfl : len = 1 := of_decide_eq_true h2
    obtain ⟨a, b, t, rfl, hq9⟩ := pII_s h
    clear h
    have h := hq9
    exact lv_ishl (x := a) (y := b) (rest := t.map (cv ad)) hx hb hd (IH _ _ _ _ _ _ _ h h8 hlv (okS_cons trivial (okS_tl (okS_tl hst))) hP hS hl)
  case ishr =>
    obtain rfl : len = 1 := of_decide_eq_true h2
    obtain ⟨a, b, t, rfl, hq9⟩ := pII_s h
    clear h
    have h := hq9
    exact lv_ishr (x := a) (y := b) (rest := t.map (cv ad)) hx hb hd (IH _ _ _ _ _ _ _ h h8 hlv (okS_cons trivial (okS_tl (okS_tl hst))) hP hS hl)
  case iushr =>
    obtain rfl : len = 1 := of_decide_eq_true h2
    obtain ⟨a, b, t, rfl, hq9⟩ := pII_s h
    clear h
    have h := hq9
    exact lv_iushr (x := a) (y := b) (rest := t.map (cv ad)) hx hb hd rfl (IH _ _ _ _ _ _ _ h h8 hlv (okS_cons trivial (okS_tl (okS_tl hst))) hP hS hl)
  case ineg =>
    obtain rfl : len = 1 := of_decide_eq_true h2
    obtain ⟨a, t, rfl, hq9⟩ := pI_s h
    clear h
    have h := hq9
    exact lv_ineg (x := a) (rest := t.map (cv ad)) hx hb hd (IH _ _ _ _ _ _ _ h h8 hlv (okS_cons trivial (okS_tl hst)) hP hS hl)
  case lrem =>
    obtain rfl : len = 1 := of_decide_eq_true h2
    obtain ⟨a, b, t, rfl, hq9⟩ := pLL_s h
    clear h
    have h := hq9
    by_cases hz : b = 0
    · rw [if_pos hz] at h; cases h
    · rw [if_neg hz] at h
      exact lv_lrem (x := a) (y := b) (rest := t.map (cv ad)) hx hb hd hz (IH _ _ _ _ _ _ _ h h8 hlv (okS_cons trivial (okS_tl (okS_tl hst))) hP hS hl)
  case ladd =>
    obtain rfl : len = 1 := of_decide_eq_true h2
    obtain ⟨a, b, t, rfl, hq9⟩ := pLL_s h
    clear h
    have h := hq9
    exact lv_ladd (x := a) (y := b) (rest := t.map (cv ad)) hx hb hd (IH _ _ _ _ _ _ _ h h8 hlv (okS_cons trivial (okS_tl (okS_tl hst))) hP hS hl)
  case land =>
    obtain rfl : len = 1 := of_decide_eq_true h2
    obtain ⟨a, b, t, rfl, hq9⟩ := pLL_s h
    clear h
    have h := hq9
    exact lv_land (x := a) (y := b) (rest := t.map (cv ad)) hx hb hd (IH _ _ _ _ _ _ _ h h8 hlv (okS_cons trivial (okS_tl (okS_tl hst))) hP hS hl)
  case lor =>
    obtain rfl : len = 1 := of_decide_eq_true h2
    obtain ⟨a, b, t, rfl, hq9⟩ := pLL_s h
    clear h
    have h := hq9
    exact lv_lor (x := a) (y := b) (rest := t.map (cv ad)) hx hb hd (IH _ _ _ _ _ _ _ h h8 hlv (okS_cons trivial (okS_tl (okS_tl hst))) hP hS hl)
  case lshl =>
    obtain rfl : len = 1 := of_decide_eq_true h2
    obtain ⟨a, b, t, rfl, hq9⟩ := pLI_s h
    clear h
    have h := hq9
    exact lv_lshl (x := a) (y := b) (rest := t.map (cv ad)) hx hb hd rfl (IH _ _ _ _ _ _ _ h h8 hlv (okS_cons trivial (okS_tl (okS_tl hst))) hP hS hl)
  case lshr =>
    obtain rfl : len = 1 := of_decide_eq_true h2
    obtain ⟨a, b, t, rfl, hq9⟩ := pLI_s h
    clear h
    have h := hq9
    exact lv_lshr (x := a) (y := b) (rest := t.map (cv ad)) hx hb hd rfl (IH _ _ _ _ _ _ _ h h8 hlv (okS_cons trivial (okS_tl (okS_tl hst))) hP hS hl)
  case lushr =>
    obtain rfl : len = 1 := of_decide_eq_true h2
    obtain ⟨a, b, t, rfl, hq9⟩ := pLI_s h
    clear h
    have h := hq9
    exact lv_lushr (x := a) (y := b) (rest := t.map (cv ad)) hx hb hd rfl (IH _ _ _ _ _ _ _ h h8 hlv (okS_cons trivial (okS_tl (okS_tl hst))) hP hS hl)
  case lcmp =>
    obtain rfl : len = 1 := of_decide_eq_true h2
    obtain ⟨a, b, t, rfl, hq9⟩ := pLL_s h
    clear h
    have h := hq9
    exact W.lcmp (x := a) (y := b) (rest := t.map (cv ad)) hx hb hd (IH _ _ _ _ _ _ _ h h8 hlv (okS_cons trivial (okS_tl (okS_tl hst))) hP hS hl)
  case i2l =>
    obtain rfl : len = 1 := of_decide_eq_true h2
    obtain ⟨a, t, rfl, hq9⟩ := pI_s h
    clear h
    have h := hq9
    exact lv_i2l (x := a) (rest := t.map (cv ad)) hx hb hd rfl (IH _ _ _ _ _ _ _ h h8 hlv (okS_cons trivial (okS_tl hst)) hP hS hl)
  case l2i =>
    obtain rfl : len = 1 := of_decide_eq_true h2
    obtain ⟨a, t, rfl, hq9⟩ := pL_s h
    clear h
    have h := hq9
    exact lv_l2i (x := a) (rest := t.map (cv ad)) hx hb hd rfl (IH _ _ _ _ _ _ _ h h8 hlv (okS_cons trivial (okS_tl hst)) hP hS hl)
  case i2b =>
    obtain rfl : len = 1 := of_decide_eq_true h2
    obtain ⟨a, t, rfl, hq9⟩ := pI_s h
    clear h
    have h := hq9
    exact lv_i2b (x := a) (rest := t.map (cv ad)) hx hb hd rfl (IH _ _ _ _ _ _ _ h h8 hlv (okS_cons trivial (okS_tl hst)) hP hS hl)
  case i2s =>
    obtain rfl : len = 1 := of_decide_eq_true h2
    obtain ⟨a, t, rfl, hq9⟩ := pI_s h
    clear h
    have h := hq9
    exact lv_i2s (x := a) (rest := t.map (cv ad)) hx hb hd rfl (IH _ _ _ _ _ _ _ h h8 hlv (okS_cons trivial (okS_tl hst)) hP hS hl)
  case idiv =>
    obtain rfl : len = 1 := of_decide_eq_true h2
    obtain ⟨a, b, t, rfl, hq9⟩ := pII_s h
    clear h
    have h := hq9
    by_cases hz : b = 0
    · rw [if_pos hz] at h; cases h
    · rw [if_neg hz] at h
      exact lv_idiv (x := a) (y := b) (rest := t.map (cv ad)) hx hb hd hz (IH _ _ _ _ _ _ _ h h8 hlv (okS_cons trivial (okS_tl (okS_tl hst))) hP hS hl)
  case irem =>
    obtain rfl : len = 1 := of_decide_eq_true h2
    obtain ⟨a, b, t, rfl, hq9⟩ := pII_s h
    clear h
    have h := hq9
    by_cases hz : b = 0
    · rw [if_pos hz] at h; cases h
    · rw [if_neg hz] at h
      exact lv_irem (x := a) (y := b) (rest := t.map (cv ad)) hx hb hd hz (IH _ _ _ _ _ _ _ h h8 hlv (okS_cons trivial (okS_tl (okS_tl hst))) hP hS hl)
  case iconst n =>
    simp only [chk2, Bool.and_eq_true, decide_eq_true_eq] at h2
    obtain ⟨rfl, h2⟩ := h2
    exact lv_iconst hx hb hd h2 (IH _ _ _ _ _ _ _ h h8 hlv (okS_cons trivial hst) hP hS hl)
  case bipush n =>
    simp only [chk2, Bool.and_eq_true, decide_eq_true_eq] at h2
    obtain ⟨rfl, h2⟩ := h2
    exact lv_bipush hx hb hd h2 (IH _ _ _ _ _ _ _ h h8 hlv (okS_cons trivial hst) hP hS hl)
  case sipush n =>
    simp only [chk2, Bool.and_eq_true, decide_eq_true_eq] at h2
    obtain ⟨rfl, h2⟩ := h2
    exact lv_sipush hx hb hd h2 (IH _ _ _ _ _ _ _ h h8 hlv (okS_cons trivial hst) hP hS hl)
  case lconst n =>
    simp only [chk2, Bool.and_eq_true, decide_eq_true_eq] at h2
    obtain ⟨rfl, h2⟩ := h2
    exact lv_lconst hx hb hd h2 (IH _ _ _ _ _ _ _ h h8 hlv (okS_cons trivial hst) hP hS hl)
  case ldc i =>
    simp only [chk2, Bool.and_eq_true, decide_eq_true_eq] at h2
    obtain ⟨rfl, h2⟩ := h2
    have hgo : (bif z.beq 0 then go (pc + 2) lv (vi k :: st) O else go (pc + 2) lv (vr 9 x 0 :: st) O) = some res := h
    clear h
    cases hz : z.beq 0 with
    | true =>
      rw [hz] at h2
      rw [hz, cond_true] at hgo
      exact lv_ldc hx hb hown (hts _ (wq_at h2)) hd (IH _ _ _ _ _ _ _ hgo h8 hlv (okS_cons trivial hst) hP hS hl)
    | false =>
      rw [hz] at h2
      rw [hz, cond_false] at hgo
      obtain ⟨rfl, h12, rfl⟩ := of_decide_eq_true h2
      exact va_ldcS hx hb hown (E.2.2.2.2.1 x h12) hd (IH _ _ _ _ _ _ _ hgo h8 hlv (okS_cons (v := vr 9 x 0) (Or.inr (Or.inl ⟨rfl, h12, rfl⟩)) hst) hP hS hl)
  case ldc_w i =>
    simp only [chk2, Bool.and_eq_true, decide_eq_true_eq] at h2
    obtain ⟨rfl, h2⟩ := h2
    exact lv_ldcw hx hb hown (hts _ (wq_at h2)) hd (IH _ _ _ _ _ _ _ h h8 hlv (okS_cons trivial hst) hP hS hl)
  case ldc2_w i =>
    simp only [chk2, Bool.and_eq_true, decide_eq_true_eq] at h2
    obtain ⟨rfl, h2⟩ := h2
    exact lv_ldc2 hx hb hown (hts _ (wq_at h2)) hd (IH _ _ _ _ _ _ _ h h8 hlv (okS_cons trivial hst) hP hS hl)
  case iload_n n =>
    simp only [chk2, Bool.and_eq_true, decide_eq_true_eq] at h2
    obtain ⟨rfl, h2⟩ := h2
    obtain ⟨a, ha, h⟩ := gI_s h
    exact lv_iload_n hx hb hd h2 (lc_at hl ha) (IH _ _ _ _ _ _ _ h h8 hlv (okS_cons trivial hst) hP hS hl)
  case lload_n n =>
    simp only [chk2, Bool.and_eq_true, decide_eq_true_eq] at h2
    obtain ⟨rfl, h2⟩ := h2
    obtain ⟨a, ha, h⟩ := gL_s h
    exact lv_lload_n hx hb hd h2 (lc_at hl ha) (IH _ _ _ _ _ _ _ h h8 hlv (okS_cons trivial hst) hP hS hl)
  case aload_n n =>
    simp only [chk2, Bool.and_eq_true, decide_eq_true_eq] at h2
    obtain ⟨rfl, h2⟩ := h2
    obtain ⟨c9, n9, q9, ha, h⟩ := gR_s h
    exact lv_aload_n hx hb hd h2 (lc_at hl ha) (IH _ _ _ _ _ _ _ h h8 hlv (okS_cons (ok_ln lv _ hlv ha) hst) hP hS hl)
  case iload i =>
    simp only [chk2, Bool.and_eq_true, decide_eq_true_eq] at h2
    obtain ⟨rfl, rfl⟩ := h2
    obtain ⟨a, ha, h⟩ := gI_s h
    exact lv_iload hx hb hd (lc_at hl ha) (IH _ _ _ _ _ _ _ h h8 hlv (okS_cons trivial hst) hP hS hl)
  case lload i =>
    simp only [chk2, Bool.and_eq_true, decide_eq_true_eq] at h2
    obtain ⟨rfl, rfl⟩ := h2
    obtain ⟨a, ha, h⟩ := gL_s h
    exact lv_lload hx hb hd (lc_at hl ha) (IH _ _ _ _ _ _ _ h h8 hlv (okS_cons trivial hst) hP hS hl)
  case aload i =>
    simp only [chk2, Bool.and_eq_true, decide_eq_true_eq] at h2
    obtain ⟨rfl, rfl⟩ := h2
    obtain ⟨c9, n9, q9, ha, h⟩ := gR_s h
    exact lv_aload hx hb hd (lc_at hl ha) (IH _ _ _ _ _ _ _ h h8 hlv (okS_cons (ok_ln lv _ hlv ha) hst) hP hS hl)
  case istore_n n =>
    simp only [chk2, Bool.and_eq_true, decide_eq_true_eq] at h2
    obtain ⟨rfl, h2⟩ := h2
    obtain ⟨a, t, rfl, hq9⟩ := pI_s h
    clear h
    have h := hq9
    exact lv_istore_n (rest := t.map (cv ad)) hx hb hd h2.1 hl h2.2 rfl (fun ls' hq => IH _ _ _ _ _ _ _ h h8 (ok_lst (okS_hd hst) _ _ hlv) (okS_tl hst) hP hS (lc_set1 rfl hq))
  case astore_n n =>
    simp only [chk2, Bool.and_eq_true, decide_eq_true_eq] at h2
    obtain ⟨rfl, h2⟩ := h2
    obtain ⟨c9, n9, q9, t, rfl, hq9⟩ := pR_s h
    clear h
    have h := hq9
    exact lv_astore_n (rest := t.map (cv ad)) hx hb hd h2.1 hl h2.2 rfl (fun ls' hq => IH _ _ _ _ _ _ _ h h8 (ok_lst (okS_hd hst) _ _ hlv) (okS_tl hst) hP hS (lc_set1 rfl hq))
  case lstore_n n =>
    simp only [chk2, Bool.and_eq_true, decide_eq_true_eq] at h2
    obtain ⟨rfl, h2⟩ := h2
    obtain ⟨a, t, rfl, hq9⟩ := pL_s h
    clear h
    have h := hq9
    exact lv_lstore_n (rest := t.map (cv ad)) hx hb hd h2.1 hl h2.2 rfl (fun ls' hq => IH _ _ _ _ _ _ _ h h8 (ok_lst (okS_hd hst) _ _ hlv) (okS_tl hst) hP hS (lc_set2 hq))
  case istore i =>
    simp only [chk2, Bool.and_eq_true, decide_eq_true_eq] at h2
    obtain ⟨rfl, rfl, h2⟩ := h2
    obtain ⟨a, t, rfl, hq9⟩ := pI_s h
    clear h
    have h := hq9
    exact lv_istore (rest := t.map (cv ad)) hx hb hd hl h2 rfl (fun ls' hq => IH _ _ _ _ _ _ _ h h8 (ok_lst (okS_hd hst) _ _ hlv) (okS_tl hst) hP hS (lc_set1 rfl hq))
  case astore i =>
    simp only [chk2, Bool.and_eq_true, decide_eq_true_eq] at h2
    obtain ⟨rfl, rfl, h2⟩ := h2
    obtain ⟨c9, n9, q9, t, rfl, hq9⟩ := pR_s h
    clear h
    have h := hq9
    exact lv_astore (rest := t.map (cv ad)) hx hb hd hl h2 rfl (fun ls' hq => IH _ _ _ _ _ _ _ h h8 (ok_lst (okS_hd hst) _ _ hlv) (okS_tl hst) hP hS (lc_set1 rfl hq))
  case lstore i =>
    simp only [chk2, Bool.and_eq_true, decide_eq_true_eq] at h2
    obtain ⟨rfl, rfl, h2⟩ := h2
    obtain ⟨a, t, rfl, hq9⟩ := pL_s h
    clear h
    have h := hq9
    exact lv_lstore (rest := t.map (cv ad)) hx hb hd hl h2 rfl (fun ls' hq => IH _ _ _ _ _ _ _ h h8 (ok_lst (okS_hd hst) _ _ hlv) (okS_tl hst) hP hS (lc_set2 hq))
  case iinc i n =>
    simp only [chk2, Bool.and_eq_true, decide_eq_true_eq] at h2
    obtain ⟨rfl, rfl, h3, h4⟩ := h2
    obtain ⟨a, ha, h⟩ := gI_s h
    have hm := asc_ln (ad := ad) lv 0 _ ha
    rw [Nat.zero_add] at hm
    obtain ⟨k9, hk9⟩ := List.getElem?_of_mem hm
    exact lv_iinc hx hb hd hl hk9 (by rw [h4]) h3 rfl (fun ls' hq => IH _ _ _ _ _ _ _ h h8 (ok_lst (v := vi (a + k)) trivial _ _ hlv) hst hP hS (lc_set1 (v := vi (a + k)) rfl hq))
  case dup =>
    obtain rfl : len = 1 := of_decide_eq_true h2
    cases st with
    | nil => cases h
    | cons v t =>
      rcases v with a | a | ⟨c9, n9, q9⟩
      · exact lv_dup hx hb hd rfl (IH _ _ (vi a :: vi a :: t) _ _ _ _ h h8 hlv (okS_cons trivial hst) hP hS hl)
      · cases h
      · exact lv_dup hx hb hd rfl (IH _ _ (vr c9 n9 q9 :: vr c9 n9 q9 :: t) _ _ _ _ h h8 hlv (okS_cons (okS_hd hst) hst) hP hS hl)
  case dup2 =>
    obtain rfl : len = 1 := of_decide_eq_true h2
    obtain ⟨c9, n9, q9, i9, t, rfl, hq9⟩ := pRI_s h
    clear h
    have h := hq9
    exact lv_dup2_11 (rest := t.map (cv ad)) hx hb hd rfl rfl (IH _ _ _ _ _ _ _ h h8 hlv (okS_cons trivial (okS_cons (okS_hd (okS_tl hst)) hst)) hP hS hl)
  case pop =>
    obtain rfl : len = 1 := of_decide_eq_true h2
    obtain ⟨a, t, rfl, hq9⟩ := pI_s h
    clear h
    have h := hq9
    exact lv_pop (va := .int a) (rest := t.map (cv ad)) hx hb hd rfl (IH _ _ _ _ _ _ _ h h8 hlv (okS_tl hst) hP hS hl)
  case ifCond cc o =>
    simp only [chk2, Bool.and_eq_true, decide_eq_true_eq] at h2
    obtain ⟨rfl, h2⟩ := h2
    obtain ⟨a, t, rfl, hq9⟩ := pI_s h
    clear h
    have h := hq9
    have kk : ∀ q, go q lv t O = some res → W p l e R s m args below meth c H locs cells slots Q (F0 m q ls (t.map (cv ad))) := fun q hq => IH _ _ _ _ _ _ _ hq h8 hlv (okS_tl hst) hP hS hl
    unfold jmp at h
    cases cc with
    | eq =>
      have h : (if a = 0 then go x lv t O else go (pc + 3) lv t O) = some res := h
      by_cases hc : a = 0
      · rw [if_pos hc] at h
        exact lv_if_eq (x := a) (rest := t.map (cv ad)) hx hb hd h2 (fun q => kk _ h) (fun q => absurd hc q)
      · rw [if_neg hc] at h
        exact lv_if_eq (x := a) (rest := t.map (cv ad)) hx hb hd h2 (fun q => absurd q hc) (fun q => kk _ h)
    | ne =>
      have h : (if a = 0 then go (pc + 3) lv t O else go x lv t O) = some res := h
      by_cases hc : a = 0
      · rw [if_pos hc] at h
        exact lv_if_ne (x := a) (rest := t.map (cv ad)) hx hb hd h2 (fun q => absurd q (by first | exact not_not_intro hc | exact Int32.not_le.mpr hc)) (fun q => kk _ h)
      · rw [if_neg hc] at h
        exact lv_if_ne (x := a) (rest := t.map (cv ad)) hx hb hd h2 (fun q => kk _ h) (fun q => absurd q hc)
    | lt =>
      have h : (if a < 0 then go x lv t O else go (pc + 3) lv t O) = some res := h
      by_cases hc : a < 0
      · rw [if_pos hc] at h
        exact lv_if_lt (x := a) (rest := t.map (cv ad)) hx hb hd h2 (fun q => kk _ h) (fun q => absurd hc q)
      · rw [if_neg hc] at h
        exact lv_if_lt (x := a) (rest := t.map (cv ad)) hx hb hd h2 (fun q => absurd q hc) (fun q => kk _ h)
    | ge =>
      have h : (if a < 0 then go (pc + 3) lv t O else go x lv t O) = some res := h
      by_cases hc : a < 0
      · rw [if_pos hc] at h
        exact lv_if_ge (x := a) (rest := t.map (cv ad)) hx hb hd h2 (fun q => absurd q (by first | exact not_not_intro hc | exact Int32.not_le.mpr hc)) (fun q => kk _ h)
      · rw [if_neg hc] at h
        exact lv_if_ge (x := a) (rest := t.map (cv ad)) hx hb hd h2 (fun q => kk _ h) (fun q => absurd (by first | exact hc | exact Int32.not_lt.mp hc) q)
    | gt =>
      have h : (if 0 < a then go x lv t O else go (pc + 3) lv t O) = some res := h
      by_cases hc : 0 < a
      · rw [if_pos hc] at h
        exact lv_if_gt (x := a) (rest := t.map (cv ad)) hx hb hd h2 (fun q => kk _ h) (fun q => absurd hc q)
      · rw [if_neg hc] at h
        exact lv_if_gt (x := a) (rest := t.map (cv ad)) hx hb hd h2 (fun q => absurd q hc) (fun q => kk _ h)
    | le =>
      have h : (if 0 < a then go (pc + 3) lv t O else go x lv t O) = some res := h
      by_cases hc : 0 < a
      · rw [if_pos hc] at h
        exact lv_if_le (x := a) (rest := t.map (cv ad)) hx hb hd h2 (fun q => absurd q (by first | exact not_not_intro hc | exact Int32.not_le.mpr hc)) (fun q => kk _ h)
      · rw [if_neg hc] at h
        exact lv_if_le (x := a) (rest := t.map (cv ad)) hx hb hd h2 (fun q => kk _ h) (fun q => absurd (by first | exact hc | exact Int32.not_lt.mp hc) q)
  case if_icmp cc o =>
    simp only [chk2, Bool.and_eq_true, decide_eq_true_eq] at h2
    obtain ⟨rfl, h2⟩ := h2
    obtain ⟨a, b, t, rfl, hq9⟩ := pII_s h
    clear h
    have h := hq9
    have kk : ∀ q, go q lv t O = some res → W p l e R s m args below meth c H locs cells slots Q (F0 m q ls (t.map (cv ad))) := fun q hq => IH _ _ _ _ _ _ _ hq h8 hlv (okS_tl (okS_tl hst)) hP hS hl
    unfold jmp at h
    cases cc with
    | eq =>
      have h : (if a = b then go x lv t O else go (pc + 3) lv t O) = some res := h
      by_cases hc : a = b
      · rw [if_pos hc] at h
        exact lv_icmp_eq (x := a) (y := b) (rest := t.map (cv ad)) hx hb hd h2 (fun q => kk _ h) (fun q => absurd hc q)
      · rw [if_neg hc] at h
        exact lv_icmp_eq (x := a) (y := b) (rest := t.map (cv ad)) hx hb hd h2 (fun q => absurd q hc) (fun q => kk _ h)
    | ne =>
      have h : (if a = b then go (pc + 3) lv t O else go x lv t O) = some res := h
      by_cases hc : a = b
      · rw [if_pos hc] at h
        exact lv_icmp_ne (x := a) (y := b) (rest := t.map (cv ad)) hx hb hd h2 (fun q => absurd q (by first | exact not_not_intro hc | exact Int32.not_le.mpr hc)) (fun q => kk _ h)
      · rw [if_neg hc] at h
        exact lv_icmp_ne (x := a) (y := b) (rest := t.map (cv ad)) hx hb hd h2 (fun q => kk _ h) (fun q => absurd q hc)
    | lt =>
      have h : (if a < b then go x lv t O else go (pc + 3) lv t O) = some res := h
      by_cases hc : a < b
      · rw [if_pos hc] at h
        exact lv_icmp_lt (x := a) (y := b) (rest := t.map (cv ad)) hx hb hd h2 (fun q => kk _ h) (fun q => absurd hc q)
      · rw [if_neg hc] at h
        exact lv_icmp_lt (x := a) (y := b) (rest := t.map (cv ad)) hx hb hd h2 (fun q => absurd q hc) (fun q => kk _ h)
    | ge =>
      have h : (if a < b then go (pc + 3) lv t O else go x lv t O) = some res := h
      by_cases hc : a < b
      · rw [if_pos hc] at h
        exact lv_icmp_ge (x := a) (y := b) (rest := t.map (cv ad)) hx hb hd h2 (fun q => absurd q (by first | exact not_not_intro hc | exact Int32.not_le.mpr hc)) (fun q => kk _ h)
      · rw [if_neg hc] at h
        exact lv_icmp_ge (x := a) (y := b) (rest := t.map (cv ad)) hx hb hd h2 (fun q => kk _ h) (fun q => absurd (by first | exact hc | exact Int32.not_lt.mp hc) q)
    | gt =>
      have h : (if b < a then go x lv t O else go (pc + 3) lv t O) = some res := h
      by_cases hc : b < a
      · rw [if_pos hc] at h
        exact lv_icmp_gt (x := a) (y := b) (rest := t.map (cv ad)) hx hb hd h2 (fun q => kk _ h) (fun q => absurd hc q)
      · rw [if_neg hc] at h
        exact lv_icmp_gt (x := a) (y := b) (rest := t.map (cv ad)) hx hb hd h2 (fun q => absurd q hc) (fun q => kk _ h)
    | le =>
      have h : (if b < a then go (pc + 3) lv t O else go x lv t O) = some res := h
      by_cases hc : b < a
      · rw [if_pos hc] at h
        exact lv_icmp_le (x := a) (y := b) (rest := t.map (cv ad)) hx hb hd h2 (fun q => absurd q (by first | exact not_not_intro hc | exact Int32.not_le.mpr hc)) (fun q => kk _ h)
      · rw [if_neg hc] at h
        exact lv_icmp_le (x := a) (y := b) (rest := t.map (cv ad)) hx hb hd h2 (fun q => kk _ h) (fun q => absurd (by first | exact hc | exact Int32.not_lt.mp hc) q)
  case goto o =>
    simp only [chk2, Bool.and_eq_true, decide_eq_true_eq] at h2
    obtain ⟨rfl, h2⟩ := h2
    exact lv_goto hx hb hd h2 (IH _ _ _ _ _ _ _ h h8 hlv hst hP hS hl)
  case tableswitch dd lo hi offs =>
    simp only [chk2, ckS, Bool.and_eq_true, decide_eq_true_eq, List.all_eq_true, List.mem_range] at h2
    obtain ⟨⟨h3, h4, h5⟩, h6⟩ := h2
    obtain ⟨a, t, rfl, hq9⟩ := pI_s h
    clear h
    have h := hq9
    have kk : ∀ q, go q lv t O = some res → W p l e R s m args below meth c H locs cells slots Q (F0 m q ls (t.map (cv ad))) := fun q hq => IH _ _ _ _ _ _ _ hq h8 hlv (okS_tl hst) hP hS hl
    rcases swg_s (a := a) (g := fun q => go q lv t O) (swT_ x).1 (swT_ x).2 with ⟨j, q, hj, e⟩ | ⟨hn, e⟩
    · rw [e] at h
      have hjl : j < offs.size := by rw [← h3]; exact (List.getElem?_eq_some_iff.mp hj).1
      obtain ⟨g1, g2⟩ := h6 j hjl
      rw [List.getD_eq_getElem?_getD, hj, Option.getD_some] at g1 g2
      have g1 : a.toInt = lo + (j : Int) := g1
      have ho : offs[j]? = some (offs.getD j 0) := by rw [Array.getD_eq_getD_getElem?, Array.getElem?_eq_getElem hjl]; rfl
      exact lv_tableIn (rest := t.map (cv ad)) hx hb hd (by omega) (by omega) (by rw [show (a.toInt - lo).toNat = j by omega]; exact ho) g2 (kk _ h)
    · rw [e] at h
      refine lv_tableOut (rest := t.map (cv ad)) hx hb hd ?_ h5 (kk _ h)
      by_cases q1 : a.toInt < lo
      · exact Or.inl q1
      · by_cases q2 : hi < a.toInt
        · exact Or.inr q2
        · exfalso
          have hjl : (a.toInt - lo).toNat < offs.size := by omega
          have hj : (swT_ x).1[(a.toInt - lo).toNat]? = some ((swT_ x).1.getD (a.toInt - lo).toNat (0, 0)) := by
            rw [List.getD_eq_getElem?_getD, List.getElem?_eq_getElem (by omega)]; rfl
          obtain ⟨g1, -⟩ := h6 _ hjl
          generalize hgg : (swT_ x).1.getD (a.toInt - lo).toNat (0, 0) = gg at hj g1
          obtain ⟨x1, k1⟩ := gg
          have g1 : x1.toInt = lo + (((a.toInt - lo).toNat : Nat) : Int) := g1
          exact hn _ _ _ hj (Int32.toInt_inj.mp (by omega))
  case lookupswitch dd ps =>
    simp only [chk2, ckO, Bool.and_eq_true, decide_eq_true_eq] at h2
    obtain ⟨⟨h3, h4⟩, h5⟩ := h2
    obtain ⟨a, t, rfl, hq9⟩ := pI_s h
    clear h
    have h := hq9
    have kk : ∀ q, go q lv t O = some res → W p l e R s m args below meth c H locs cells slots Q (F0 m q ls (t.map (cv ad))) := fun q hq => IH _ _ _ _ _ _ _ hq h8 hlv (okS_tl hst) hP hS hl
    obtain ⟨q, hq1, hq2⟩ := swg_look (g := fun q => go q lv t O) (a := a) (pc := pc) (dd := dd) (d := (swT_ x).2) h3 ps.toList (swT_ x).1 h4
    rw [hq2] at h
    exact lv_lookup (rest := t.map (cv ad)) hx hb hd h5 rfl hq1 (kk _ h)
  case getfield i =>
    simp only [chk2, Bool.and_eq_true, decide_eq_true_eq] at h2
    obtain ⟨⟨rfl, hx8, hy, rfl⟩, hw⟩ := h2
    obtain ⟨c9, n9, q9, t, rfl, hq9⟩ := pR_s h
    clear h
    have h := hq9
    cases hb9 : (c9.beq x && q9.beq 0) with
    | false => rw [hb9] at h; cases h
    | true =>
      rw [hb9] at h
      rw [Bool.and_eq_true] at hb9
      obtain rfl := Nat.eq_of_beq_eq_true hb9.1
      obtain rfl := Nat.eq_of_beq_eq_true hb9.2
      have hc := okc_cell (okS_hd hst) (by omega)
      obtain ⟨q0, hq⟩ := cell_at hc
      exact va_get (rest := t.map (cv ad)) (T := (rcl c9).2.1) hx hb hts (rcl_in hx8) hown E.1 hP q0 (wo_get hq) (rcl_mem hx8) y hy (hts _ (wq_at hw)) (fun _ h9 => h9) (fls_get hy) hd (IH _ _ _ _ _ _ _ h h8 hlv (okS_cons (cell_fld hc hy) (okS_tl hst)) hP hS hl)
  case putfield i =>
    simp only [chk2, Bool.and_eq_true, decide_eq_true_eq] at h2
    obtain ⟨⟨⟨rfl, hx8, hy, hfin⟩, hw⟩, hz⟩ := h2
    obtain ⟨c9, n9, q9, v9, t, rfl, hq9⟩ := pRV_s h
    clear h
    have h := hq9
    cases hb9 : (c9.beq x && q9.beq 0) with
    | false => rw [hb9] at h; cases h
    | true =>
      rw [hb9] at h
      rw [Bool.and_eq_true] at hb9
      obtain rfl := Nat.eq_of_beq_eq_true hb9.1
      obtain rfl := Nat.eq_of_beq_eq_true hb9.2
      have hc := okc_cell (okS_hd (okS_tl hst)) (by omega)
      obtain ⟨q0, hq⟩ := cell_at hc
      obtain ⟨ty0, hty⟩ := rcl_ty hx8
      have main : ∀ (ty : FieldType) (v : Value) (a : Int32), parseFieldDescriptor (fdw c9 y).2.2.1 = some ty → narrow ty v = v → fits ty v = true → cv ad (gfv (fkd c9 y) c9 n9 y (up O c9 n9 0 y a)) = v → go (pc + 3) lv t (up O c9 n9 0 y a) = some res →
          W p l e R s m args below meth c H locs cells slots Q (F0 m pc ls (v :: .ref (ad c9 n9 0) :: t.map (cv ad))) := by
        intro ty v a g1 g2 g3 g4 hgo
        refine va_put (rest := t.map (cv ad)) (T := (rcl c9).2.1) hx hb hts (rcl_in hx8) ty0 hty (rcl_nm hx8) hown E.1 hP hin.D hS q0 (wo_get hq) (rcl_mem hx8) y hy (hts _ (wq_at hw)) (fun _ h9 => h9) hfin g1 g2 g3 (by rw [fls_len]; exact hy) hd (fun H1 locs1 hP1 _ hS1 => ?_)
        refine IH _ _ _ _ _ _ _ hgo ((up8 (by omega)).trans h8) hlv (okS_tl (okS_tl hst)) ?_ hS1 hl
        rw [fls_set hy g4] at hP1
        rw [← wo_set (ad := ad) (cs := cs) (O := O) (O' := up O c9 n9 0 y a) hq (fun y9 _ hne => cel_congr (wup_ne hne))]
        exact hP1
      match z, v9, hz, h with
      | 0, Sum.inl a, hz, h =>
        obtain ⟨f1, f2⟩ := of_decide_eq_true hz
        exact main _ _ a f2 rfl rfl (by rw [f1]; show Value.int (up O c9 n9 0 y a c9 n9 0 y) = _; rw [up_at, if_pos rfl]; rfl) h
      | 1, Sum.inl a, hz, h =>
        obtain ⟨f1, f2⟩ := of_decide_eq_true hz
        have h : (if a = 0 ∨ a = 1 then go (pc + 3) lv t (up O c9 n9 0 y a) else none) = some res := h
        by_cases ha : a = 0 ∨ a = 1
        · rw [if_pos ha] at h
          exact main _ _ a f2 (bool_nar ha).1 (bool_nar ha).2.1 (by rw [f1]; show Value.int (up O c9 n9 0 y a c9 n9 0 y) = _; rw [up_at, if_pos rfl]; rfl) h
        · rw [if_neg ha] at h; cases h
      | 2, Sum.inr (Sum.inr (c2, n2, p2)), hz, h =>
        obtain ⟨f1, f2⟩ := of_decide_eq_true hz
        have h : (bif c2.beq 4 && p2.beq 0 then go (pc + 3) lv t (up O c9 n9 0 y (nI n2)) else none) = some res := h
        cases hb8 : (c2.beq 4 && p2.beq 0) with
        | false => rw [hb8] at h; cases h
        | true =>
          rw [hb8] at h
          rw [Bool.and_eq_true] at hb8
          obtain rfl := Nat.eq_of_beq_eq_true hb8.1
          obtain rfl := Nat.eq_of_beq_eq_true hb8.2
          have hc2 := okc_cell (okS_hd hst) (by decide)
          have hn2 : n2 = 0 ∨ n2 = 1 := told_two hc2
          refine main _ _ (nI n2) f2 rfl rfl ?_ h
          rw [f1]
          show Value.ref (ad 4 (sel (up O c9 n9 0 y (nI n2) c9 n9 0 y)) 0) = Value.ref (ad 4 n2 0)
          rw [up_at, if_pos rfl]
          rcases hn2 with rfl | rfl <;> rfl
  case iaload =>
    obtain rfl : len = 1 := of_decide_eq_true h2
    obtain ⟨c9, n9, q9, i, t, rfl, hq9⟩ := pRI_s h
    clear h
    have h := hq9
    cases h89 : c9.beq 8 with
    | true =>
      rw [h89] at h
      obtain rfl := Nat.eq_of_beq_eq_true h89
      have hr : okc lw 8 n9 q9 := okS_hd (okS_tl hst)
      rcases hr with hr | ⟨hr, -⟩ | ⟨-, rfl, rfl⟩
      · exact absurd (cell_lt hr) (by decide)
      · cases hr
      · obtain ⟨L, xs, hL, hX, hbl, hbA, hlen, hxs⟩ := hsc
        have h : (if ib i (O 8 0 1 0).toNatClampNeg then go (pc + 1) lv (vi (O 8 0 0 i.toNatClampNeg) :: t) O else none) = some res := h
        rw [h8, hlen, nI_clamp hL] at h
        by_cases hi : ib i L = true
        · rw [if_pos hi] at h
          rw [hxs _ (ib_lt hi)] at h
          exact va_sld (rest := t.map (cv ad)) hx hb hX hbl hbA hS (ib_in hi) hd (IH _ _ _ _ _ _ _ h h8 hlv (okS_cons trivial (okS_tl (okS_tl hst))) hP hS hl)
        · rw [if_neg hi] at h; cases h
    | false =>
      rw [h89] at h
      cases ht9 : (aty c9 q9).beq 0 with
      | false => rw [ht9] at h; cases h
      | true =>
        rw [ht9] at h
        have ht := Nat.eq_of_beq_eq_true ht9
        have hc := okc_cell (okS_hd (okS_tl hst)) (aty_lt (p := q9) (by omega))
        obtain ⟨q0, hq, -⟩ := wo_row (ad := ad) (cs := cs) (O := O) (j := 0) (v := 0) hc (by decide) ht
        have h : (if ib i (aln c9 q9) then go (pc + 1) lv (vi (O c9 n9 q9 i.toNatClampNeg) :: t) O else none) = some res := h
        by_cases hi : ib i (aln c9 q9) = true
        · rw [if_pos hi] at h
          exact va_iald (rest := t.map (cv ad)) hx hb E.1 hP q0 0 hq rfl (ib_in hi) hd (IH _ _ _ _ _ _ _ h h8 hlv (okS_cons trivial (okS_tl (okS_tl hst))) hP hS hl)
        · rw [if_neg hi] at h; cases h
  case baload =>
    obtain rfl : len = 1 := of_decide_eq_true h2
    obtain ⟨c9, n9, q9, i, t, rfl, hq9⟩ := pRI_s h
    clear h
    have h := hq9
    cases ht9 : (aty c9 q9).beq 1 with
    | false => rw [ht9] at h; cases h
    | true =>
      rw [ht9] at h
      have ht := Nat.eq_of_beq_eq_true ht9
      have hc := okc_cell (okS_hd (okS_tl hst)) (aty_lt (p := q9) (by omega))
      obtain ⟨q0, hq, -⟩ := wo_row (ad := ad) (cs := cs) (O := O) (j := 0) (v := 0) hc (by decide) ht
      have h : (if ib i (aln c9 q9) then go (pc + 1) lv (vi (O c9 n9 q9 i.toNatClampNeg) :: t) O else none) = some res := h
      by_cases hi : ib i (aln c9 q9) = true
      · rw [if_pos hi] at h
        exact va_zald (rest := t.map (cv ad)) hx hb E.1 hP q0 1 hq rfl (ib_in hi) hd (IH _ _ _ _ _ _ _ h h8 hlv (okS_cons trivial (okS_tl (okS_tl hst))) hP hS hl)
      · rw [if_neg hi] at h; cases h
  case aaload =>
    obtain rfl : len = 1 := of_decide_eq_true h2
    obtain ⟨c9, n9, q9, i, t, rfl, hq9⟩ := pRI_s h
    clear h
    have h := hq9
    cases ht9 : (Nat.blt 1 (aty c9 q9) && (aty c9 q9).blt 5) with
    | false => rw [ht9] at h; cases h
    | true =>
      rw [ht9] at h
      rw [Bool.and_eq_true] at ht9
      have ht1 := Nat.blt_eq.mp ht9.1
      have ht2 := Nat.blt_eq.mp ht9.2
      have hc := okc_cell (okS_hd (okS_tl hst)) (aty_lt (p := q9) (by omega))
      have h : (if ib i (aln c9 q9) then go (pc + 1) lv (aref c9 n9 q9 i.toNatClampNeg :: t) O else none) = some res := h
      by_cases hi : ib i (aln c9 q9) = true
      · rw [if_pos hi] at h
        obtain ⟨r9, hr, hok⟩ := cell_ref (lw := lw) hc ht9.1 ht9.2 (ib_lt hi)
        have hv : cv ad (aref c9 n9 q9 i.toNatClampNeg) = va_rf (some (rad ad (aref c9 n9 q9 i.toNatClampNeg))) := by rw [hr]; rfl
        have hg := IH _ _ _ _ _ _ _ h h8 hlv (okS_cons (by rw [hr]; exact hok) (okS_tl (okS_tl hst))) hP hS hl
        obtain ⟨q0, hq⟩ := cell_at hc
        obtain ⟨p', rfl⟩ := aty_pos hc (by omega)
        have hat := wo_get (ad := ad) (cs := cs) (O := O) hq
        have hce : cel ad cs O (c9, n9, p' + 1) = .inl (cs (aty c9 (p' + 1)), aln c9 (p' + 1), .inr (.inr (.inr (.inr fun i => some (rad ad (aref c9 n9 (p' + 1) i)))))) := by
          simp only [cel]
          rw [show (aty c9 (p' + 1)).blt 2 = false from by
            cases hq : (aty c9 (p' + 1)).blt 2 with
            | false => rfl
            | true => rw [Nat.blt_eq] at hq; omega, show (aty c9 (p' + 1)).beq 5 = false from by
            cases hq : (aty c9 (p' + 1)).beq 5 with
            | false => rfl
            | true => have := Nat.eq_of_beq_eq_true hq; omega]
          rfl
        rw [hce] at hat
        rw [List.map_cons, hv] at hg
        have hty : ∃ (ty : FieldType), ty.isReference = true ∧ (tyL cs)[aty c9 (p' + 1)]? = some (cs (aty c9 (p' + 1)), ty) := by
          generalize aty c9 (p' + 1) = z9 at ht1 ht2
          match z9, ht1, ht2 with
          | 2, _, _ => exact ⟨_, rfl, rfl⟩
          | 3, _, _ => exact ⟨_, rfl, rfl⟩
          | 4, _, _ => exact ⟨_, rfl, rfl⟩
        obtain ⟨ty, hty1, hty2⟩ := hty
        have hlt := ib_lt hi
        refine W.aald (v := va_rf (some (rad ad (aref c9 n9 (p' + 1) i.toNatClampNeg)))) (ty := ty) hx hb (hP q0 _ hat) ((E.1.2 _ _ hty2).1 _ (fun j => va_rf (some (rad ad (aref c9 n9 (p' + 1) j))))) hty1 (fun q => by cases q) (by show ¬ (i < 0 ∨ (arrV _ _ _).slots.size ≤ _); rw [arrV_size]; exact ib_in hi) (by show (arrV _ _ _).slots[_]? = _; rw [arrV_read _ _ hlt]) rfl rfl hd hg
      · rw [if_neg hi] at h; cases h
  case iastore =>
    obtain rfl : len = 1 := of_decide_eq_true h2
    obtain ⟨c9, n9, q9, i, v, t, rfl, hq9⟩ := pRII_s h
    clear h
    have h := hq9
    cases ht9 : (aty c9 q9).beq 0 with
    | false => rw [ht9] at h; cases h
    | true =>
      rw [ht9] at h
      have ht := Nat.eq_of_beq_eq_true ht9
      have hc8 : c9 < 8 := aty_lt (p := q9) (by omega)
      have hc := okc_cell (okS_hd (okS_tl (okS_tl hst))) hc8
      have h : (if ib i (aln c9 q9) then go (pc + 1) lv t (up O c9 n9 q9 i.toNatClampNeg v) else none) = some res := h
      by_cases hi : ib i (aln c9 q9) = true
      · rw [if_pos hi] at h
        obtain ⟨q0, hq, hset⟩ := wo_row (ad := ad) (cs := cs) (O := O) (j := i.toNatClampNeg) (v := v) hc (by decide) ht
        refine va_iast (rest := t.map (cv ad)) hx hb E.1 hP hin.D hS q0 0 hq rfl (ib_in hi) hd (fun H1 locs1 hP1 _ hS1 => ?_)
        rw [hset _ rfl] at hP1
        exact IH _ _ _ _ _ _ _ h ((up8 hc8).trans h8) hlv (okS_tl (okS_tl (okS_tl hst))) hP1 hS1 hl
      · rw [if_neg hi] at h; cases h
  case bastore =>
    obtain rfl : len = 1 := of_decide_eq_true h2
    obtain ⟨c9, n9, q9, i, v, t, rfl, hq9⟩ := pRII_s h
    clear h
    have h := hq9
    cases ht9 : (aty c9 q9).beq 1 with
    | false => rw [ht9] at h; cases h
    | true =>
      rw [ht9] at h
      have ht := Nat.eq_of_beq_eq_true ht9
      have hc8 : c9 < 8 := aty_lt (p := q9) (by omega)
      have hc := okc_cell (okS_hd (okS_tl (okS_tl hst))) hc8
      have h : (if ib i (aln c9 q9) then (if v = 0 ∨ v = 1 then go (pc + 1) lv t (up O c9 n9 q9 i.toNatClampNeg v) else none) else none) = some res := h
      by_cases hi : ib i (aln c9 q9) = true
      · rw [if_pos hi] at h
        by_cases hv : v = 0 ∨ v = 1
        · rw [if_pos hv] at h
          obtain ⟨q0, hq, hset⟩ := wo_row (ad := ad) (cs := cs) (O := O) (j := i.toNatClampNeg) (v := v) hc (by decide) ht
          refine va_zast (rest := t.map (cv ad)) hx hb E.1 hP hin.D hS q0 1 hq rfl (ib_in hi) hd (fun H1 locs1 hP1 _ hS1 => ?_)
          rw [(bool_nar hv).2.2, hset _ rfl] at hP1
          exact IH _ _ _ _ _ _ _ h ((up8 hc8).trans h8) hlv (okS_tl (okS_tl (okS_tl hst))) hP1 hS1 hl
        · rw [if_neg hv] at h; cases h
      · rw [if_neg hi] at h; cases h
  case laload =>
    obtain rfl : len = 1 := of_decide_eq_true h2
    obtain ⟨c9, n9, q9, i, t, rfl, hq9⟩ := pRI_s h
    clear h
    have h := hq9
    cases ht9 : (aty c9 q9).beq 5 with
    | false => rw [ht9] at h; cases h
    | true =>
      rw [ht9] at h
      have ht := Nat.eq_of_beq_eq_true ht9
      have hc := okc_cell (okS_hd (okS_tl hst)) (aty_lt (p := q9) (by omega))
      obtain ⟨q0, hq, -⟩ := wo_rowL (ad := ad) (cs := cs) (O := O) (j := 0) (v := 0) hc ht
      have h : (if ib i (aln c9 q9) then go (pc + 1) lv (vl (rdL O c9 n9 q9 i.toNatClampNeg) :: t) O else none) = some res := h
      by_cases hi : ib i (aln c9 q9) = true
      · rw [if_pos hi] at h
        exact va_lald (rest := t.map (cv ad)) hx hb E.1 hP q0 5 hq rfl (ib_in hi) hd (IH _ _ _ _ _ _ _ h h8 hlv (okS_cons trivial (okS_tl (okS_tl hst))) hP hS hl)
      · rw [if_neg hi] at h; cases h
  case lastore =>
    obtain rfl : len = 1 := of_decide_eq_true h2
    obtain ⟨c9, n9, q9, i, v, t, rfl, hq9⟩ := pRIL_s h
    clear h
    have h := hq9
    cases ht9 : (aty c9 q9).beq 5 with
    | false => rw [ht9] at h; cases h
    | true =>
      rw [ht9] at h
      have ht := Nat.eq_of_beq_eq_true ht9
      have hc8 : c9 < 8 := aty_lt (p := q9) (by omega)
      have hc := okc_cell (okS_hd (okS_tl (okS_tl hst))) hc8
      have h : (if ib i (aln c9 q9) then go (pc + 1) lv t (upL O c9 n9 q9 i.toNatClampNeg v) else none) = some res := h
      by_cases hi : ib i (aln c9 q9) = true
      · rw [if_pos hi] at h
        obtain ⟨q0, hq, hset⟩ := wo_rowL (ad := ad) (cs := cs) (O := O) (j := i.toNatClampNeg) (v := v) hc ht
        refine va_last (rest := t.map (cv ad)) hx hb E.1 hP hin.D hS q0 5 hq rfl (ib_in hi) hd (fun H1 locs1 hP1 _ hS1 => ?_)
        rw [hset] at hP1
        exact IH _ _ _ _ _ _ _ h ((upL8 hc8).trans h8) hlv (okS_tl (okS_tl (okS_tl hst))) hP1 hS1 hl
      · rw [if_neg hi] at h; cases h
  case newarray ty =>
    simp only [chk2, Bool.and_eq_true, decide_eq_true_eq] at h2
    obtain ⟨rfl, rfl, rfl, hml2⟩ := h2
    cases st with
    | nil => cases h
    | cons v t =>
      rcases v with a | a
      · cases t with
        | cons w t => cases h
        | nil =>
          have hgo : (bif Nat.beq 305 305 && hlt hLv lv then (if a = nI 60 then some (nI 7, O) else none) else none) = some res := h
          clear h
          cases hq : hlt hLv lv with
          | false => rw [hq] at hgo; cases hgo
          | true =>
            rw [hq] at hgo
            have hgo : (if a = nI 60 then some (nI 7, O) else none) = some res := hgo
            by_cases ha : a = nI 60
            · rw [if_pos ha] at hgo
              cases hgo
              subst ha
              rw [hlt_s hLv lv 0 hq] at hl
              exact hfn _ _ _ O hd hml2 rfl hP hS hl
            · rw [if_neg ha] at hgo; cases hgo
      · cases h
  case arraylength =>
    obtain rfl : len = 1 := of_decide_eq_true h2
    obtain ⟨c9, n9, q9, t, rfl, hq9⟩ := pR_s h
    clear h
    have h := hq9
    cases h89 : c9.beq 8 with
    | false => rw [h89] at h; cases h
    | true =>
      rw [h89] at h
      obtain rfl := Nat.eq_of_beq_eq_true h89
      have hr : okc lw 8 n9 q9 := okS_hd hst
      rcases hr with hr | ⟨hr, -⟩ | ⟨-, rfl, rfl⟩
      · exact absurd (cell_lt hr) (by decide)
      · cases hr
      · obtain ⟨L, xs, hL, hX, hbl, hbA, hlen, hxs⟩ := hsc
        have h : go (pc + 1) lv (vi (O 8 0 1 0) :: t) O = some res := h
        rw [h8, hlen] at h
        exact va_slen (rest := t.map (cv ad)) hx hb hX hbl hbA hS hd (IH _ _ _ _ _ _ _ h h8 hlv (okS_cons trivial (okS_tl hst)) hP hS hl)
  case invokevirtual i =>
    exact snd_virt F E hsc hin hcall hjdk hk8 hrm hR hd h2 IH h h8 hlv hst hP hS hl
  case invokestatic i =>
    exact snd_stat F E hsc hin hcall hk8 hrm hR hd h2 IH h h8 hlv hst hP hS hl
  case ireturn =>
    simp only [chk2, Bool.and_eq_true, decide_eq_true_eq] at h2
    obtain ⟨rfl, h2⟩ := h2
    cases st with
    | nil => cases h
    | cons v t =>
      rcases v with a | a
      · cases t with
        | cons w t => cases h
        | nil =>
          rcases h2 with ⟨rfl, h2⟩ | ⟨rfl, h2⟩
          · cases h
            exact hfi _ _ _ _ a O hd (Or.inl h2) rfl hP hS
          · have hgo : (if a = 0 ∨ a = 1 then some (a, O) else none) = some res := h
            by_cases ha : a = 0 ∨ a = 1
            · rw [if_pos ha] at hgo
              cases hgo
              exact hfi _ _ _ _ a O hd (Or.inr ⟨h2, ha⟩) rfl hP hS
            · rw [if_neg ha] at hgo; cases hgo
      · cases h
  case return_ =>
    simp only [chk2, Bool.and_eq_true, decide_eq_true_eq] at h2
    obtain ⟨rfl, h2⟩ := h2
    cases st with
    | nil =>
      cases h
      exact hfv _ _ _ _ O hd h2 rfl hP hS
    | cons v t => cases h
  all_goals (exact absurd h (by intro q; cases q))
end SND2
