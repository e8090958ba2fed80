/-! THE MACHINE DOES WHAT THE ABSTRACT ONE DOES: a call. -/
theorem aw_in {lw : Nat} {ad : AD_} {A : Nat → Prop} (h : Inj_ lw ad A) : ∀ q, Aw lw ad q → A q := fun q hq => by
  obtain ⟨x, hx, rfl⟩ := hq
  exact h.2 x hx
theorem mPc_bl (D : va_G) (lw : Nat) (ad : AD_) (cs : Nat → ClassId) (adV : Nat → Nat) (a : List V_) (O : Mem_) : FrameBlind (mPc D lw ad cs adV a O) := fun _ _ _ _ h => ⟨h.1, h.2.1, Ev.same rfl rfl h.2.2.1, Scr.same rfl rfl h.2.2.2⟩
theorem mPj_bl (D : va_G) (lw : Nat) (ad : AD_) (cs : Nat → ClassId) (adV : Nat → Nat) (a : List V_) (O : Mem_) : FrameBlind (mPj D lw ad cs adV a O) := fun _ _ _ _ h => ⟨h.1, h.2.1, Ev.same rfl rfl h.2.2⟩
theorem mPj_at {D : va_G} {lw : Nat} {ad : AD_} {cs : Nat → ClassId} {adV : Nat → Nat} {A : Nat → Prop} {s : State} {H : Heap} {locs : List Loc} {a : List V_} {O : Mem_} {As : List Value} (hAs : a.map (cv ad) = As) (E : Ev D ad cs adV A s) (hin : Inj_ lw ad A) (hP : va_P D vwCl (wo lw ad cs O) H) (hS : va_S A s.heap H locs) :
    ∀ U : State, U.heap = H → s.WarmedH U.vm → mPj D lw ad cs adV a O As.toArray U := by
  intro U hU hW
  subst hAs
  exact ⟨rfl, by rw [hU]; exact hP, Ev.warm hW hU hS (aw_in hin) E⟩
theorem mPc_at {D : va_G} {lw : Nat} {ad : AD_} {cs : Nat → ClassId} {adV : Nat → Nat} {A : Nat → Prop} {s : State} {H : Heap} {locs : List Loc} {a : List V_} {O O0 : Mem_} {As : List Value} (hAs : a.map (cv ad) = As) (E : Ev D ad cs adV A s) (hsc : Scr ad A s O0) (h8 : O 8 = O0 8) (hin : Inj_ lw ad A) (hP : va_P D vwCl (wo lw ad cs O) H) (hS : va_S A s.heap H locs) :
    ∀ U : State, U.heap = H → s.WarmedH U.vm → mPc D lw ad cs adV a O As.toArray U := by
  intro U hU hW
  subst hAs
  exact ⟨rfl, by rw [hU]; exact hP, Ev.warm hW hU hS (aw_in hin) E, hsc.warm hW hU hS (aw_in hin) h8⟩
theorem mw_len3 {x : Nat} (h : mwk x = true) (hl : (mws_.getD x []).length = 3) : (∀ w ∈ ([.code (mcl x).1 (mcl x).2.1 (mcl x).2.2.1 (mcl x).2.2.2, .initialized (mcl x).1.cls, .static (mcl x).1] : List Jvm.Cond), w ∈ wsL_law) := by
  unfold mwk at h
  rw [Bool.and_eq_true] at h
  have h2 := h.2
  revert h2
  match hq : mws_.getD x [], hl with
  | [a, b, c], _ =>
    intro h2
    simp only [Bool.and_eq_true] at h2
    intro w hw
    simp only [List.mem_cons, List.not_mem_nil, or_false] at hw
    rcases hw with rfl | rfl | rfl
    · exact wq_at h2.1.1
    · exact wq_at h2.1.2
    · exact wq_at h2.2
theorem mw_len4 {x : Nat} (h : mwk x = true) (hl : (mws_.getD x []).length = 4) : (∀ w ∈ ([.code (mcl x).1 (mcl x).2.1 (mcl x).2.2.1 (mcl x).2.2.2, .initialized (mcl x).1.cls, .instanceMethod (mcl x).1, .selects (mcl x).1.cls (mcl x).1 (mcl x).1] : List Jvm.Cond), w ∈ wsL_law) := by
  unfold mwk at h
  rw [Bool.and_eq_true] at h
  have h2 := h.2
  revert h2
  match hq : mws_.getD x [], hl with
  | [a, b, c, d], _ =>
    intro h2
    simp only [Bool.and_eq_true] at h2
    intro w hw
    simp only [List.mem_cons, List.not_mem_nil, or_false] at hw
    rcases hw with rfl | rfl | rfl | rfl
    · exact wq_at h2.1.1.1
    · exact wq_at h2.1.1.2
    · exact wq_at h2.1.2
    · exact wq_at h2.2
def zk (go : Go_) (z pc : Nat) (lv : Lv_) (t : List V_) (r : Rs_) : Option Rs_ := match z with
  | 0 => go (pc + 3) lv t r.2
  | _ => go (pc + 3) lv (vi r.1 :: t) r.2
theorem inv_s {call : Cl_} {virt : Bool} {x y z pc : Nat} {lv : Lv_} {st : List V_} {O : Mem_} {go : Go_} {res : Rs_} (h : inv call virt x y z pc lv st O go = some res) : ∃ (a t : List V_) (r : Rs_), st = a.reverse ++ t ∧ a.length = y % 16 ∧ (bif virt then rcv (y / 1024) a else true) = true ∧ (lay a).length ≤ y / 16 % 64 ∧ few t = true ∧ call x a O = some r ∧ zk go z pc lv t r = some res := by
  unfold inv at h
  obtain ⟨b, t, rfl, hb, h⟩ := pN_s _ _ _ h
  rw [List.append_nil] at h
  generalize hc : ((bif virt then rcv (y / 1024) b.reverse else true) && ((lay b.reverse).length.ble (y / 16 % 64) && few t)) = cc at h
  cases cc with
  | false => cases h
  | true =>
    simp only [Bool.and_eq_true] at hc
    have h : (call x b.reverse O).bind _ = some res := h
    cases hr : call x b.reverse O with
    | none => rw [hr] at h; cases h
    | some r =>
      rw [hr] at h
      exact ⟨b.reverse, t, r, by rw [List.reverse_reverse], by rw [List.length_reverse]; exact hb, hc.1, Nat.le_of_ble_eq_true hc.2.1, hc.2.2, hr, h⟩
section SNDC
variable {p : Program} {l : Launch} {e : Env} {R : Room} {s : State} {m : MethodId} {args : Array Value} {below : List Frame} {meth : Method} {c : Code} {cells slots : Nat} {Q : State → Prop}
variable {D : va_G} {ad : AD_} {cs : Nat → ClassId} {adV : Nat → Nat} {A : Nat → Prop} {O0 : Mem_} {lw : Nat} {ml : Nat} {res : Rs_} {go : Go_} {own : String} {cb : ByteArray} {rt : Option FieldType}
variable {f : Nat → Nat → Lv_ → List V_ → Mem_ → Option Rs_} {rm : Room}
variable {pc len x y z : Nat} {k : Int32} {kl : Int64} {lv : Lv_} {st t : List V_} {O : Mem_} {H : Heap} {locs : List Loc} {ls : Array Slot}
theorem snd_back {st0 : List Value} {a : Array Value} {ret : Option FieldType} {r : Rs_} (hr : va_Run p l e R s m args below meth c H locs cells slots 0 0 (F0 m pc ls st0) (t.map (cv ad)) (mQc D lw ad cs ret r a) (Aw lw ad)) (hin : Inj_ lw ad A)
    (IH : GoW p l e R s m args below meth c cells slots Q D ad cs A O0 lw ml res go) (hz : z = 0 ↔ ret = none) (h : zk go z pc lv t r = some res) (h8 : r.2 8 = O0 8) (hlv : okL lw lv) (hst : okS lw t) (hS : va_S A s.heap H locs) (hl : lv_has ls ml (asc ad 0 lv)) :
    W p l e R s m args below meth c H locs cells slots Q (F0 m pc ls st0) := by
  cases ret with
  | none =>
    obtain rfl := hz.mpr rfl
    refine va_callv (a := a) hr hS (fun q _ hq => aw_in hin q hq) (aw_in hin) (fun u t1 H1 locs1 e1 _ _ hB _ _ hS1 => ?_)
    subst e1
    exact IH _ _ _ _ _ _ _ h h8 hlv hst hB hS1 hl
  | some ty =>
    obtain ⟨z, rfl⟩ : ∃ z', z = z' + 1 := by
      cases z with
      | zero => exact absurd (hz.mp rfl) (by intro q; cases q)
      | succ z => exact ⟨z, rfl⟩
    refine va_calli (a := a) hr hS (fun q _ hq => aw_in hin q hq) (aw_in hin) (fun v u t1 H1 locs1 e1 _ hv hB _ _ hS1 => ?_)
    subst e1
    subst hv
    exact IH _ _ _ _ _ _ _ h h8 hlv (okS_cons trivial hst) hB hS1 hl
theorem few_w {m : MethodId} {pc : Nat} {ls : Array Slot} {st0 : List Value} (h : few t = true) : 2 * (F0 m pc ls st0).monitorRoom + ((t.map (cv ad)).map fun v => v.category).sum ≤ 8 := by
  have := few_sum (ad := ad) h
  have h0 : (F0 m pc ls st0).monitorRoom = 0 := rfl
  rw [h0]
  omega
theorem stk_rev {a : List V_} : (a.reverse ++ t).map (cv ad) = (a.map (cv ad)).reverse ++ t.map (cv ad) := by
  rw [List.map_append, List.map_reverse]
theorem mw_in {x : Nat} (h : Jvm.Cond.code (mcl x).1 (mcl x).2.1 (mcl x).2.2.1 (mcl x).2.2.2 ∈ wsL_law) : ∀ w ∈ mwd x, w ∈ wsL_law := by
  intro w hw
  rcases List.mem_cons.mp hw with rfl | hw
  · exact h
  · exact hw
theorem mwk_s {x : Nat} (h : mwk x = true) : plainName (mcl x).1.cls = true ∧ (mcl x).1.cls ≠ "java/lang/invoke/MethodHandle" ∧ (mcl x).1.cls ≠ "java/lang/invoke/VarHandle" ∧ (mcl x).2.2.1 ≤ 20 := by
  unfold mwk at h
  rw [Bool.and_eq_true] at h
  exact of_decide_eq_true h.1
end SNDC
