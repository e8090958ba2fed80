/-! THE MACHINE DOES WHAT THE ABSTRACT ONE DOES: invokestatic, invokevirtual. -/
theorem intr_c {c0 n0 p0 c n p : Nat} {sp dp k : Int32} {O : Mem_} {r : Rs_} (h : (bif (aty c0 p0).blt 2 && (aty c p).beq (aty c0 p0) then
      if ¬ sp < 0 ∧ ¬ dp < 0 ∧ ¬ k < 0 ∧ sp.toNatClampNeg + k.toNatClampNeg ≤ aln c0 p0 ∧ dp.toNatClampNeg + k.toNatClampNeg ≤ aln c p then
        (bif (aty c0 p0).beq 0 then some (0, cpy O c0 n0 p0 c n p sp.toNatClampNeg dp.toNatClampNeg k.toNatClampNeg)
        else if bok O c0 n0 p0 sp.toNatClampNeg k.toNatClampNeg then some (0, cpy O c0 n0 p0 c n p sp.toNatClampNeg dp.toNatClampNeg k.toNatClampNeg) else none)
      else none
    else none) = some r) : aty c0 p0 < 2 ∧ aty c p = aty c0 p0 ∧ (¬ sp < 0 ∧ ¬ dp < 0 ∧ ¬ k < 0 ∧ sp.toNatClampNeg + k.toNatClampNeg ≤ aln c0 p0 ∧ dp.toNatClampNeg + k.toNatClampNeg ≤ aln c p) ∧ (aty c0 p0 = 0 ∨ bok O c0 n0 p0 sp.toNatClampNeg k.toNatClampNeg = true) ∧ r = (0, cpy O c0 n0 p0 c n p sp.toNatClampNeg dp.toNatClampNeg k.toNatClampNeg) := by
  cases hb : ((aty c0 p0).blt 2 && (aty c p).beq (aty c0 p0)) with
  | false => rw [hb] at h; cases h
  | true =>
    rw [hb, cond_true] at h
    rw [Bool.and_eq_true] at hb
    by_cases hg : ¬ sp < 0 ∧ ¬ dp < 0 ∧ ¬ k < 0 ∧ sp.toNatClampNeg + k.toNatClampNeg ≤ aln c0 p0 ∧ dp.toNatClampNeg + k.toNatClampNeg ≤ aln c p
    · rw [if_pos hg] at h
      refine ⟨Nat.blt_eq.mp hb.1, Nat.eq_of_beq_eq_true hb.2, hg, ?_⟩
      cases h0 : (aty c0 p0).beq 0 with
      | true =>
        rw [h0, cond_true] at h
        exact ⟨Or.inl (Nat.eq_of_beq_eq_true h0), (Option.some.inj h).symm⟩
      | false =>
        rw [h0, cond_false] at h
        by_cases hk : bok O c0 n0 p0 sp.toNatClampNeg k.toNatClampNeg = true
        · rw [if_pos hk] at h
          exact ⟨Or.inr hk, (Option.some.inj h).symm⟩
        · rw [if_neg hk] at h; cases h
    · rw [if_neg hg] at h; cases h
theorem intr_copy {a : List V_} {O : Mem_} {r : Rs_} (h : intr 1000 a O = some r) : ∃ c0 n0 p0 sp c n p dp k, a = [vr c0 n0 p0, vi sp, vr c n p, vi dp, vi k] ∧ aty c0 p0 < 2 ∧ aty c p = aty c0 p0 ∧ (¬ sp < 0 ∧ ¬ dp < 0 ∧ ¬ k < 0 ∧ sp.toNatClampNeg + k.toNatClampNeg ≤ aln c0 p0 ∧ dp.toNatClampNeg + k.toNatClampNeg ≤ aln c p) ∧ (aty c0 p0 = 0 ∨ bok O c0 n0 p0 sp.toNatClampNeg k.toNatClampNeg = true) ∧ r = (0, cpy O c0 n0 p0 c n p sp.toNatClampNeg dp.toNatClampNeg k.toNatClampNeg) := by
  unfold intr at h
  split at h
  · exact ⟨_, _, _, _, _, _, _, _, _, rfl, intr_c h⟩
  all_goals first | (rename_i q; exact absurd q (by decide)) | cases h | skip
theorem intr_len {a : List V_} {O : Mem_} {r : Rs_} (h : intr 1003 a O = some r) : ∃ i, a = [vr 9 i 0] ∧ r = (nI (sT.getD i []).length, O) := by
  unfold intr at h
  split at h
  all_goals first | exact ⟨_, rfl, (Option.some.inj h).symm⟩ | (rename_i q; exact absurd q (by decide)) | cases h | skip
theorem intr_at {a : List V_} {O : Mem_} {r : Rs_} (h : intr 1004 a O = some r) : ∃ i k, a = [vr 9 i 0, vi k] ∧ ib k (sT.getD i []).length = true ∧ r = ((sT.getD i []).getD k.toNatClampNeg 0, O) := by
  unfold intr at h
  split at h
  all_goals first
    | (rename_i i k _
       by_cases hk : ib k (sT.getD i []).length = true
       · rw [if_pos hk] at h
         exact ⟨i, k, rfl, hk, (Option.some.inj h).symm⟩
       · rw [if_neg hk] at h; cases h)
    | (rename_i q; exact absurd q (by decide)) | cases h | skip
theorem wds_x : wq 481 (.native arraycopyName) = true ∧ wq 482 (.static arraycopyName) = true ∧ wq 483 (.initialized "java/lang/System") = true ∧ wq 210 (.instanceMethod yJ0_length_8abf5) = true ∧ wq 211 (.selects RJ0 yJ0_length_8abf5 yJ0_length_8abf5) = true ∧ wq 212 (.initialized RJ0) = true ∧ wq 213 (.code yJ0_length_8abf5 cJ0_length_8abf5 1 (some .int)) = true ∧ wq 222 (.instanceMethod yJ0_charAt_5068e) = true ∧ wq 223 (.selects RJ0 yJ0_charAt_5068e yJ0_charAt_5068e) = true ∧ wq 224 (.code yJ0_charAt_5068e cJ0_charAt_5068e 2 (some .char)) = true := by decide +kernel
section SNDI
variable {p : Program} {l : Launch} {e : Env} {R : Room} {s : State} {m : MethodId} {args : Array Value} {below : List Frame} {meth : Method} {c : Code} {cells slots : Nat} {Q : State → Prop}
variable {D : va_G} {ad : AD_} {cs : Nat → ClassId} {adV : Nat → Nat} {A : Nat → Prop} {O0 : Mem_} {lw : Nat} {ml : Nat} {res : Rs_} {go : Go_} {own : String} {cb : ByteArray} {rt : Option FieldType}
variable {f : Nat → Nat → Lv_ → List V_ → Mem_ → Option Rs_} {rm : Room}
variable {pc len x y z : Nat} {k : Int32} {kl : Int64} {lv : Lv_} {st t : List V_} {O : Mem_} {H : Heap} {locs : List Loc} {ls : Array Slot}
theorem cl_own {a : List V_} {r : Rs_} (hx : x < 1000) (h : cl_ f x a O = some r) : f x 0 (lay a) [] O = some r := by
  have hb : x.blt 1000 = true := Nat.blt_eq.mpr hx
  have h : (bif x.blt 1000 then f x 0 (lay a) [] O else intr x a O) = some r := h
  rw [hb] at h
  exact h
theorem chkL_own {i n : Nat} (hx : x < 1000) (h : ckL own i x y z k n = true) : (x < 218 ∧ (mcl x).2.2.1 = y / 16 % 64 ∧ nPar (mcl x).1 = some n ∧ (z = 0 ↔ (mcl x).2.2.2 = none)) ∧ (bif decide (k < 0) then decide (nst_[(-1 - k).toNatClampNeg]? = some (own, i, (mcl x).1, RX6)) else wq k.toNatClampNeg (.methodLink own i (mcl x).1)) = true := by
  have hb : x.blt 1000 = true := Nat.blt_eq.mpr hx
  unfold ckL at h
  rw [hb, cond_true, Bool.and_eq_true] at h
  exact ⟨of_decide_eq_true h.1, h.2⟩
theorem okS_args {a : List V_} (h : okS lw (a.reverse ++ t)) : okS lw a := fun w hw => h w (List.mem_append_left _ (List.mem_reverse.mpr hw))
theorem okS_rest {a : List V_} (h : okS lw (a.reverse ++ t)) : okS lw t := fun w hw => h w (List.mem_append_right _ hw)
theorem rcv_s {q : Nat} {a : List V_} (h : rcv q a = true) : ∃ n as, a = vr q n 0 :: as := by
  match a, h with
  | Sum.inr (Sum.inr (c', n, p)) :: as, h =>
    have h : (c'.beq q && p.beq 0) = true := h
    rw [Bool.and_eq_true] at h
    obtain rfl := Nat.eq_of_beq_eq_true h.1
    obtain rfl := Nat.eq_of_beq_eq_true h.2
    exact ⟨n, as, rfl⟩
theorem snd_stat {i : Nat} (F : Fr p s m args c own cb ml) (E : Ev D ad cs adV A s) (hsc : Scr ad A s O0) (hin : Inj_ lw ad A) (hcall : CallOK l f rm D lw ad cs adV)
    (hk8 : ∀ (x : Nat) (a : List V_) (O : Mem_) (r : Rs_), f x 0 (lay a) [] O = some r → r.2 8 = O 8) (hrm : rm.cells = 0 ∧ rm.slots = 0 ∧ rm.frames + 1 ≤ R.frames ∧ 39 + rm.locals ≤ R.locals) (hR : 1 ≤ R.frames ∧ 100 ≤ R.locals ∧ cells ≤ R.cells ∧ slots ≤ R.slots)
    (hd : decode cb pc = .ok (.invokestatic i, len)) (h2 : chk2 own ml rt pc (.invokestatic i, len, x, y, z, k, kl) = true)
    (IH : GoW p l e R s m args below meth c cells slots Q D ad cs A O0 lw ml res go)
    (h : inv (cl_ f) false x y z pc lv st O go = some res) (h8 : O 8 = O0 8) (hlv : okL lw lv) (hst : okS lw st) (hP : va_P D vwCl (wo lw ad cs O) H) (hS : va_S A s.heap H locs) (hl : lv_has ls ml (asc ad 0 lv)) :
    W p l e R s m args below meth c H locs cells slots Q (F0 m pc ls (st.map (cv ad))) := by
  obtain ⟨a, t, r, rfl, hal, -, hla, hfew, hr, hg⟩ := inv_s h
  clear h
  rw [stk_rev]
  have h2 : (decide (len = 3) && ckL own i x y z k (y % 16) && (bif x.blt 1000 then decide ((mws_.getD x []).length = 3) else decide (x < 1003))) = true := h2
  rw [Bool.and_eq_true, Bool.and_eq_true] at h2
  obtain ⟨⟨h3, hck⟩, h5⟩ := h2
  obtain rfl : len = 3 := of_decide_eq_true h3
  by_cases hx : x < 1000
  · have hb : x.blt 1000 = true := Nat.blt_eq.mpr hx
    rw [hb, cond_true] at h5
    obtain ⟨⟨hx2, hml2, hn, hz⟩, hlk⟩ := chkL_own hx hck
    have hr := cl_own hx hr
    have hM := hcall x a O r hx2 hr (okS_args hst) (by rw [hml2]; exact hla)
    have hw := mw_len3 (mkA_c218 hx2 (k := 2) (of_decide_eq_true h5)) (of_decide_eq_true h5)
    obtain ⟨-, hc1, hc2, hc3⟩ := mwk_s (mkA_c218 hx2 (k := 2) (of_decide_eq_true h5))
    have hc0 := hw _ List.mem_cons_self
    have hci := hw _ (List.mem_cons_of_mem _ List.mem_cons_self)
    have hcs := hw _ (List.mem_cons_of_mem _ (List.mem_cons_of_mem _ List.mem_cons_self))
    have hpre : PreS s H (mPc D lw ad cs adV a O) (a.map (cv ad)) := ⟨mPc_bl D lw ad cs adV a O, mPc_at rfl E hsc h8 hin hP hS⟩
    cases hneg : decide (k < 0) with
    | true =>
      rw [hneg, cond_true] at hlk
      have hq := List.mem_of_getElem? (of_decide_eq_true hlk)
      refine snd_back (va_runSN F hM ⟨va_cnB (y % 16) F.2.2.2.2 (ws_goodIn (mw_in hc0)) rfl hrm.1 hrm.2.1 (E.2.2.2.2.2 _ hq) (F.2.2.2.2 _ hci) ⟨hc1, hc2, hn⟩ ⟨hrm.2.2.1, by omega⟩, F.2.2.2.2 _ hcs, trivial⟩ hpre rfl (by rw [List.length_map]; exact hal) hl.1 rfl (few_w hfew) hd ⟨hR.2.2.1, hR.2.2.2⟩) hin IH hz hg ((hk8 _ _ _ _ hr).trans h8) hlv (okS_rest hst) hS hl
    | false =>
      rw [hneg, cond_false] at hlk
      refine snd_back (va_runS F hM (va_cwS (y % 16) F.2.2.2.2 (ws_goodIn (fun w hw0 => ?_)) rfl hrm.1 hrm.2.1 ⟨hc1, hc2, hn⟩ ⟨hrm.2.2.1, by omega⟩) hpre rfl (by rw [List.length_map]; exact hal) hl.1 rfl (few_w hfew) hd ⟨hR.2.2.1, hR.2.2.2⟩) hin IH hz hg ((hk8 _ _ _ _ hr).trans h8) hlv (okS_rest hst) hS hl
      rcases List.mem_append.mp hw0 with hw0 | hw0
      · simp only [List.mem_cons, List.not_mem_nil, or_false] at hw0
        rcases hw0 with rfl | rfl | rfl
        · exact wq_at hlk
        · exact hcs
        · exact hci
      · exact mw_in hc0 w hw0
  · have hb : x.blt 1000 = false := by
      cases hq : x.blt 1000 with
      | false => rfl
      | true => exact absurd (Nat.blt_eq.mp hq) hx
    rw [hb, cond_false] at h5
    have h5 := of_decide_eq_true h5
    have hr : (bif x.blt 1000 then f x 0 (lay a) [] O else intr x a O) = some r := hr
    rw [hb, cond_false] at hr
    obtain ⟨hX, hb2, hml, hown, hts⟩ := id F
    obtain ⟨w819, w820, w821, -⟩ := wds_x
    unfold ckL at hck
    rw [hb, cond_false] at hck
    have hf8 : ((t.map (cv ad)).map fun v => v.category).sum ≤ 8 := few_sum hfew
    obtain rfl | rfl | rfl : x = 1000 ∨ x = 1001 ∨ x = 1002 := by omega
    · have hck : (decide (y % 16 = 5 ∧ z = 0) && wq k.toNatClampNeg (.methodLink own i arraycopyName)) = true := hck
      rw [Bool.and_eq_true] at hck
      obtain ⟨-, rfl⟩ := of_decide_eq_true hck.1
      obtain ⟨c0, n0, p0, sp, c1, n1, p1, dp, kk, rfl, ht0, ht1, ⟨g1, g2, g3, g4, g5⟩, hbk, rfl⟩ := intr_copy hr
      have ha := okS_args hst
      have hcA := okc_cell (ha (vr c0 n0 p0) (by simp)) (aty_lt (p := p0) (by omega))
      have hcB := okc_cell (ha (vr c1 n1 p1) (by simp)) (aty_lt (p := p1) (by omega))
      obtain ⟨q0, hq0, -⟩ := wo_row (ad := ad) (cs := cs) (O := O) (j := 0) (v := 0) hcA ht0 rfl
      obtain ⟨q1, hq1, hset⟩ := wo_rowC (ad := ad) (cs := cs) (O := O) (sp := sp.toNatClampNeg) (dp := dp.toNatClampNeg) (len := kk.toNatClampNeg) (c1 := c0) (n1 := n0) (p1 := p0) hcB ht0 ht1
      refine va_copyi (rest := t.map (cv ad)) (sp := sp) (dp := dp) (n := kk) hX hb2 (hml.trans hl.1.symm) hown (hts _ (wq_at hck.2)) (hts _ (wq_at w819)) (hts _ (wq_at w820)) (hts _ (wq_at w821)) E.1 hP hin.D hS q0 q1 _ _ hq0 hq1 (ty_at ht0) (ty_at ht0) ?_ g1 g2 g3 g4 g5 ?_ hR.1 ?_ hd (fun H1 locs1 hP1 _ hS1 => ?_)
      · by_cases hz0 : aty c0 p0 = 0
        · rw [if_pos hz0]; rfl
        · rw [if_neg hz0]; rfl
      · intro j hj
        rcases hbk with hz0 | hbk
        · rw [if_pos hz0]; rfl
        · by_cases hz0 : aty c0 p0 = 0
          · rw [if_pos hz0]; rfl
          · rw [if_neg hz0]
            have := List.all_eq_true.mp hbk j (List.mem_range.mpr hj)
            rw [Bool.or_eq_true, decide_eq_true_eq, decide_eq_true_eq] at this
            rcases this with q | q <;> rw [q] <;> rfl
      · show _ + (7 + 11) ≤ _
        omega
      · rw [hset] at hP1
        exact IH _ _ _ _ _ _ _ hg ((cpy8 (aty_lt (p := p1) (by omega))).trans h8) hlv (okS_rest hst) hP1 hS1 hl
    · cases hck
    · cases hck
theorem snd_virt {i : Nat} (F : Fr p s m args c own cb ml) (E : Ev D ad cs adV A s) (hsc : Scr ad A s O0) (hin : Inj_ lw ad A) (hcall : CallOK l f rm D lw ad cs adV) (hjdk : JdkOK l rm D lw ad cs adV)
    (hk8 : ∀ (x : Nat) (a : List V_) (O : Mem_) (r : Rs_), f x 0 (lay a) [] O = some r → r.2 8 = O 8) (hrm : rm.cells = 0 ∧ rm.slots = 0 ∧ rm.frames + 1 ≤ R.frames ∧ 39 + rm.locals ≤ R.locals) (hR : 1 ≤ R.frames ∧ 100 ≤ R.locals ∧ cells ≤ R.cells ∧ slots ≤ R.slots)
    (hd : decode cb pc = .ok (.invokevirtual i, len)) (h2 : chk2 own ml rt pc (.invokevirtual i, len, x, y, z, k, kl) = true)
    (IH : GoW p l e R s m args below meth c cells slots Q D ad cs A O0 lw ml res go)
    (h : inv (cl_ f) true x y z pc lv st O go = some res) (h8 : O 8 = O0 8) (hlv : okL lw lv) (hst : okS lw st) (hP : va_P D vwCl (wo lw ad cs O) H) (hS : va_S A s.heap H locs) (hl : lv_has ls ml (asc ad 0 lv)) :
    W p l e R s m args below meth c H locs cells slots Q (F0 m pc ls (st.map (cv ad))) := by
  obtain ⟨a, t, r, rfl, hal, hrcv, hla, hfew, hr, hg⟩ := inv_s h
  clear h
  rw [stk_rev]
  have h2 : (decide (len = 3) && decide (1 ≤ y % 16) && ckL own i x y z k (y % 16 - 1) && (bif x.blt 1000 then decide (y / 1024 < 7 ∧ (mcl x).1.cls = (rcl (y / 1024)).1 ∧ (mws_.getD x []).length = 4) else decide (1003 ≤ x))) = true := h2
  rw [Bool.and_eq_true, Bool.and_eq_true, Bool.and_eq_true] at h2
  obtain ⟨⟨⟨h3, h1⟩, hck⟩, h5⟩ := h2
  obtain rfl : len = 3 := of_decide_eq_true h3
  by_cases hx : x < 1000
  · have hb : x.blt 1000 = true := Nat.blt_eq.mpr hx
    rw [hb, cond_true] at h5
    obtain ⟨hy8, hcl, hlen⟩ := of_decide_eq_true h5
    obtain ⟨⟨hx2, hml2, hn, hz⟩, hlk⟩ := chkL_own hx hck
    have hr := cl_own hx hr
    have hM := hcall x a O r hx2 hr (okS_args hst) (by rw [hml2]; exact hla)
    have hw := mw_len4 (mkA_c218 hx2 (k := 3) hlen) hlen
    obtain ⟨-, hc1, hc2, hc3⟩ := mwk_s (mkA_c218 hx2 (k := 3) hlen)
    have hc0 := hw _ List.mem_cons_self
    have hci := hw _ (List.mem_cons_of_mem _ List.mem_cons_self)
    have hcs := hw _ (List.mem_cons_of_mem _ (List.mem_cons_of_mem _ List.mem_cons_self))
    have hce := hw _ (List.mem_cons_of_mem _ (List.mem_cons_of_mem _ (List.mem_cons_of_mem _ List.mem_cons_self)))
    obtain ⟨n, as, rfl⟩ := rcv_s hrcv
    have hcc := okc_cell (okS_args hst (vr (y / 1024) n 0) List.mem_cons_self) (by omega)
    obtain ⟨q0, hq⟩ := cell_at hcc
    have hrec := va_recv E.1 hP (rcl_mem hy8) (wo_get hq)
    have hpre : PreV s H (mcl x).1.cls (ad (y / 1024) n 0) (mPc D lw ad cs adV (vr (y / 1024) n 0 :: as) O) (as.map (cv ad)) := ⟨mPc_bl D lw ad cs adV _ O, by rw [hcl]; exact hrec, mPc_at (As := Value.ref (ad (y / 1024) n 0) :: as.map (cv ad)) rfl E hsc h8 hin hP hS⟩
    have hal2 : (as.map (cv ad)).length = y % 16 - 1 := by
      rw [List.length_map]
      rw [List.length_cons] at hal
      omega
    have hstk : ((vr (y / 1024) n 0 :: as).map (cv ad)).reverse ++ t.map (cv ad) = (as.map (cv ad)).reverse ++ Value.ref (ad (y / 1024) n 0) :: t.map (cv ad) := by
      rw [List.map_cons, List.reverse_cons, List.append_assoc]
      rfl
    rw [hstk]
    cases hneg : decide (k < 0) with
    | true =>
      rw [hneg, cond_true] at hlk
      have hq := List.mem_of_getElem? (of_decide_eq_true hlk)
      refine snd_back (va_runVN (C := (mcl x).1.cls) F hM ⟨va_cnB (y % 16 - 1) F.2.2.2.2 (ws_goodIn (mw_in hc0)) rfl hrm.1 hrm.2.1 (E.2.2.2.2.2 _ hq) (F.2.2.2.2 _ hci) ⟨hc1, hc2, hn⟩ ⟨hrm.2.2.1, by omega⟩, F.2.2.2.2 _ hcs, F.2.2.2.2 _ hce⟩ hpre rfl hal2 hl.1 rfl (few_w hfew) hd ⟨hR.2.2.1, hR.2.2.2⟩) hin IH hz hg ((hk8 _ _ _ _ hr).trans h8) hlv (okS_rest hst) hS hl
    | false =>
      rw [hneg, cond_false] at hlk
      refine snd_back (va_runV F hM (cwV (y % 16 - 1) F.2.2.2.2 (ws_goodIn (fun w hw0 => ?_)) rfl hrm.1 hrm.2.1 ⟨rfl, hc1, hc2, hn⟩ ⟨hrm.2.2.1, by omega⟩) hpre rfl hal2 hl.1 rfl (few_w hfew) hd ⟨hR.2.2.1, hR.2.2.2⟩) hin IH hz hg ((hk8 _ _ _ _ hr).trans h8) hlv (okS_rest hst) hS hl
      rcases List.mem_append.mp hw0 with hw0 | hw0
      · simp only [List.mem_cons, List.not_mem_nil, or_false] at hw0
        rcases hw0 with rfl | rfl | rfl | rfl
        · exact wq_at hlk
        · exact hcs
        · exact hce
        · exact hci
      · exact mw_in hc0 w hw0
  · have hb : x.blt 1000 = false := by
      cases hq : x.blt 1000 with
      | false => rfl
      | true => exact absurd (Nat.blt_eq.mp hq) hx
    rw [hb, cond_false] at h5
    have h5 := of_decide_eq_true h5
    have hr : (bif x.blt 1000 then f x 0 (lay a) [] O else intr x a O) = some r := hr
    rw [hb, cond_false] at hr
    obtain ⟨-, -, -, w290, w291, w292, w293, w302, w303, w304⟩ := wds_x
    unfold ckL at hck
    rw [hb, cond_false] at hck
    have hx3 : x = 1003 ∨ x = 1004 := by
      split at hck
      · omega
      · exact Or.inl rfl
      · exact Or.inr rfl
      · cases hck
    have hiok : ∀ (n : Nat) (as : List V_), a = vr 9 n 0 :: as → n < 12 := fun n as hq => by
      rcases okS_args hst (vr 9 n 0) (by rw [hq]; exact List.mem_cons_self) with h9 | ⟨-, h9, -⟩ | ⟨h9, -⟩
      · exact absurd (cell_lt h9) (by decide)
      · exact h9
      · cases h9
    obtain rfl | rfl := hx3
    · have hck : (decide (y % 16 = 1 ∧ z = 1 ∧ y / 1024 = 9) && wq k.toNatClampNeg (.methodLink own i yJ0_length_8abf5)) = true := hck
      rw [Bool.and_eq_true] at hck
      obtain ⟨hy, rfl, -⟩ := of_decide_eq_true hck.1
      obtain ⟨n, rfl, rfl⟩ := intr_len hr
      have hn := hiok n [] rfl
      have hpre : PreV s H RJ0 (ad 9 n 0) (mPj D lw ad cs adV [vr 9 n 0] O) [] := ⟨mPj_bl D lw ad cs adV _ O, vk_recv (i := n) (adK := fun i => ad 9 i 0) E.2.1 hn hS, mPj_at (As := [Value.ref (ad 9 n 0)]) rfl E hin hP hS⟩
      refine snd_back (z := 1) (ret := some .int) (va_runV F (hjdk.1 n O hn) (cwV 0 F.2.2.2.2 (ws_goodIn (fun w hw0 => ?_)) rfl hrm.1 hrm.2.1 (by decide +kernel) ⟨hrm.2.2.1, by omega⟩) hpre rfl rfl hl.1 rfl (few_w hfew) hd ⟨hR.2.2.1, hR.2.2.2⟩) hin IH ⟨fun q => (by cases q), fun q => (by cases q)⟩ hg h8 hlv (okS_rest hst) hS hl
      rcases List.mem_append.mp hw0 with hw0 | hw0
      · simp only [List.mem_cons, List.not_mem_nil, or_false] at hw0
        rcases hw0 with rfl | rfl | rfl | rfl
        · exact wq_at hck.2
        · exact wq_at w290
        · exact wq_at w291
        · exact wq_at w292
      · rcases List.mem_cons.mp hw0 with rfl | hw0
        · exact wq_at w293
        · exact hw0
    · have hck : (decide (y % 16 = 2 ∧ z = 1 ∧ y / 1024 = 9) && wq k.toNatClampNeg (.methodLink own i yJ0_charAt_5068e)) = true := hck
      rw [Bool.and_eq_true] at hck
      obtain ⟨hy, rfl, -⟩ := of_decide_eq_true hck.1
      obtain ⟨n, k9, rfl, hk9, rfl⟩ := intr_at hr
      have hn := hiok n _ rfl
      have hpre : PreV s H RJ0 (ad 9 n 0) (mPj D lw ad cs adV [vr 9 n 0, vi k9] O) [.int k9] := ⟨mPj_bl D lw ad cs adV _ O, vk_recv (i := n) (adK := fun i => ad 9 i 0) E.2.1 hn hS, mPj_at (As := [Value.ref (ad 9 n 0), .int k9]) rfl E hin hP hS⟩
      refine snd_back (z := 1) (ret := some .char) (va_runV F (hjdk.2 n k9 O hn hk9) (cwV 1 F.2.2.2.2 (ws_goodIn (fun w hw0 => ?_)) rfl hrm.1 hrm.2.1 (by decide +kernel) ⟨hrm.2.2.1, by omega⟩) hpre rfl rfl hl.1 rfl (few_w hfew) hd ⟨hR.2.2.1, hR.2.2.2⟩) hin IH ⟨fun q => (by cases q), fun q => (by cases q)⟩ hg h8 hlv (okS_rest hst) hS hl
      rcases List.mem_append.mp hw0 with hw0 | hw0
      · simp only [List.mem_cons, List.not_mem_nil, or_false] at hw0
        rcases hw0 with rfl | rfl | rfl | rfl
        · exact wq_at hck.2
        · exact wq_at w302
        · exact wq_at w303
        · exact wq_at w292
      · rcases List.mem_cons.mp hw0 with rfl | hw0
        · exact wq_at w304
        · exact hw0
end SNDI
