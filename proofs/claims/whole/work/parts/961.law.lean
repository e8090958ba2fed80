/-! THE LAW: both constructors, then its loop. -/
def lw_P (b : Addr) (xs : List Int32) (args : Array Value) (s : State) : Prop := args = #[.ref b] ∧ s.IntsAt b xs ∧ xs.length ≤ 2560 ∧ (Jvm.Cond.and given_1 narrow_1).before args s = true
def lw_Q (_ : Array Value) (s : State) (o : Outcome) (t : State) : Prop := o = .returned (some (.int 1)) ∧ Framed s o t [] 600000 7302250
def lw_Z (below : List Frame) (a : Array Value) (s : State) : State → Prop := fun t => ∃ o, t.status = .running ∧ Ended t below o ∧ lw_Q a s o t
/-- the law's own end, with 1 on the stack, nothing written that was there before, its room as the claim has it -/
theorem lw_ret {p : Program} {l : Launch} {e : Env} {s : State} {m : MethodId} {below : List Frame} {meth : Method} {c : Code} {b : Nat} (hx : p.tables.exec = Jvm.exec) (hb : c.code = code) (hr : meth.sig.returnType = ret) (hlocks : meth.locks = false) {pc : Nat} {H : Heap} {ls : Array Slot} (hdg : decode code pc = .ok (.ireturn, 1)) : W p l e room_1 s m #[Value.ref b] below meth c H [] 600000 7302250 (lw_Z below #[Value.ref b] s) (F0 m pc ls [.int 1]) := by
  intro T hT X
  obtain ⟨fs, hret, hrun, hended, hW, hframe⟩ := X.leave (v := some (.int 1)) (hlocks := hlocks) (fun h => by rw [hr] at h; cases h)
  have hmeth' : T.vm.method? m = some meth := X.method'
  refine ⟨T.setFrames fs, ?_, .returned (some (.int 1)), hrun, hended, rfl, ⟨_, rfl⟩, hW, hframe⟩
  jvm_step X.here [X.here.top, hx, hb, hdg, hmeth', hr, ret, narrow_b1]
  (try refine ⟨rfl, ?_⟩); (try refine ⟨rfl, ?_⟩)
  first | (intro acts; rw [hret _ acts rfl rfl rfl]) | rw [hret _ _ rfl rfl rfl]
  exact Steps.refl _

theorem rnT8 {f : Nat → Nat → Lv_ → List V_ → Mem_ → Option Rs_} (hf : ∀ (x : Nat) (a : List V_) (O : Mem_) (r : Rs_), f x 0 (lay a) [] O = some r → r.2 8 = O 8) {own : String} {cb : ByteArray} {ml : Nat} {rt : Option FieldType} {tb : List (List (Nat × E_))} {ct : List (Nat × List Bool)} (hck : chkT own cb ml rt tb = true) : ∀ n : Nat, k8 (rn_ swT_ (cl_ f) tb ct n)
  | 0 => fun pc lv st O r h => by cases h
  | n + 1 => fun pc lv st O r h => by
    have h : stp swT_ (cl_ f) (lk tb pc) pc lv st O (fun pc lv st O => rn_ swT_ (cl_ f) tb ct n pc (ctl ct pc lv) st O) = some r := h
    rcases chk_lk (pc := pc) hck with hq | hq
    · refine stp8 (fun x a O r hx => ?_) (fun pc lv st O r h => rnT8 hf hck n pc _ st O r h) ((Bool.and_eq_true _ _).mp hq).2 h
      unfold cl_ at hx
      cases hb : x.blt 1000 with
      | true => rw [hb] at hx; exact hf _ _ _ _ hx
      | false => rw [hb] at hx; exact intr8 hx
    · rw [hq] at h
      cases h
theorem nw6 : nwOK room_1 RLw 6 10 7 9 2 yX6_init cX6_init { frames := 3, cells := 145, slots := 2139, locals := 120 } 145 2139 :=
  ⟨by decide, rfl, rfl, rfl, wq_at (i := 0) (by decide +kernel), wq_at (i := 1) (by decide +kernel), wq_at (i := 2) (by decide +kernel), rfl, by decide +kernel, rfl, by decide +kernel, wq_at (i := 7) (by decide +kernel), wq_at (i := 8) (by decide +kernel), wq_at (i := 9) (by decide +kernel), ⟨Nat.le_of_ble_eq_true rfl, Nat.le_of_ble_eq_true rfl⟩⟩
theorem d_law : ckD code 0 (.new 7) 3 = true ∧ ckD code 3 .dup 1 = true ∧ ckD code 4 (.invokespecial 9) 3 = true ∧ ckD code 7 (.astore_n 1) 1 = true ∧ ckD code 8 (.new 10) 3 = true ∧ ckD code 11 .dup 1 = true ∧ ckD code 12 (.invokespecial 12) 3 = true ∧ ckD code 15 (.astore_n 2) 1 = true ∧ ckD code 16 (.iconst 0) 1 = true ∧ ckD code 17 (.istore_n 3) 1 = true := by decide +kernel
/-- what is left: numbers alone -/
def Pure_ : Prop := ∀ (L : Nat) (xs : Nat → Int32), L ≤ 2560 → ∃ (n0 : Nat) (O1 O2 : Mem_), rn_ swT_ (cl_ (ex 20)) tIni [] n0 208 [some (vr 7 0 0), none] [] (mS L xs) = some (0, O1) ∧ ex 41 218 18 [some (vr 8 0 0), some (vr 6 0 0), some (vr 7 0 0), some (vi 0)] [] O1 = some (1, O2)
theorem ck218 : chkT RLw code 4 (some .int) (tbs_.getD 218 []) = true := ck_218
set_option maxRecDepth 20000 in
set_option maxHeartbeats 2000000 in
theorem whole_of (hpure : Pure_) {p : Program} {e : Env} {s : State} {m : MethodId} {below : List Frame} {meth : Method} {c : Code} (l : Launch) {b L : Nat} {xs : Nat → Int32} (hL : L ≤ 2560) (C0 : lw_At p s m meth c b L xs) : W p l e room_1 s m #[Value.ref b] below meth c s.heap [] 0 0 (lw_Z below #[Value.ref b] s) (entryFrame m ([Value.ref b] : List Value).toArray 4) := by
  obtain ⟨D, cs, st, adV, hEs, hEc⟩ := law_env C0
  obtain ⟨n0, O1, O2, h1, h2⟩ := hpure L xs hL
  obtain ⟨hx, hb, hr, hml, hown, hts, hX, hbl, hlocks, hgv⟩ := C0
  have htw : ∀ w ∈ wsL_law, w.before #[Value.ref b] s = true := fun w hw => hts w (wsL_law_in w hw)
  have F : Fr p s m #[Value.ref b] c RLw code 4 := ⟨hx, hb, hml, hown, htw⟩
  have hEv : Ev D (fun _ i _ => st i) cs adV (fun q => s.heap.size ≤ q) s := hEs
  obtain ⟨d0, d3, d4, d7, d8, d11, d12, d15, d16, d17⟩ := d_law
  have hl := lv_entry [Value.ref b] (n := 4) (Nat.le_of_ble_eq_true rfl)
  rw [lg_entry_eq]
  generalize (lg_sl [Value.ref b] ++ List.replicate (4 - (lg_sl [Value.ref b]).length) Slot.unset).toArray = ls at hl ⊢
  have hP0 : va_P D vwCl [] s.heap := fun k q hk => by simp at hk
  have hD0 : va_D (fun q => s.heap.size ≤ q) [] := ⟨fun i j p q hi => by simp at hi, fun k q hk => by simp at hk⟩
  refine new_obj (adr := fun u : S6_ => u.1.1) (pst := pst6) (w := w6 cs) (ci := 6) (N := 10) (i1 := 7) (i2 := 9) (maxL := 2) (mc := 145) (ms := 2139) (y := yX6_init) (yc := cX6_init) (rm := { frames := 3, cells := 145, slots := 2139, locals := 120 }) (ws := []) (rest := []) (A := fun q => s.heap.size ≤ q) F hEc (fun q hq => hq) hl.1 (fun o sz => mi6) nw6 hP0 hD0 va_S.rf (Nat.le_of_ble_eq_true rfl) (Nat.le_of_ble_eq_true rfl) (ckD_s d0) (ckD_s d3) (ckD_s d4) (Nat.le_of_ble_eq_true rfl) (fun u H1 locs1 hu hP1 hD1 hS1 => ?_)
  refine W.eq (g2 := F0 m 7 ls [.ref u.1.1]) rfl ?_
  refine lv_astore_n (k := 1) (i := 1) hx hb (ckD_s d7) rfl hl (by decide) rfl (fun ls1 hl1 => ?_)
  refine W.eq (g2 := F0 m 8 ls1 []) rfl ?_
  obtain ⟨ty, hty, hdf⟩ := dfs_ok (ci := 7) (by decide)
  refine va_new (T := (rcl 7).2.1) (index := 10) hx hb htw (rcl_in (c := 7) (by decide)) ty hty hown (htw _ (wq_at (i := 3) (w := .classLink RLw 10 RX7) (by decide +kernel))) (htw _ (wq_at (i := 4) (w := .instantiable RX7 45) (by decide +kernel))) (htw _ (wq_at (i := 5) (w := .initialized RX7) (by decide +kernel))) hEc.1 hP1 hD1 hS1 (fun q hq => hq) (rcl_mem (c := 7) (by decide)) hdf (Nat.le_of_ble_eq_true rfl) (Nat.le_of_ble_eq_true rfl) (ckD_s d8) (fun q H2 hP2 hD2 hS2 => ?_)
  refine lv_dup hx hb (ckD_s d11) rfl ?_
  have hpre : PreS s H2 (m7Pc D cs st adV s.heap.size q u) (.ref q :: []) := ⟨m7Pc_bl, fun U hU hW => ⟨rfl, by
    rw [hU]
    exact va_P.swap (a := []) (b := w6 cs u) (c := [(q, .inr (7, dfv 7))]) hP2, va_D.swap (a := []) (b := w6 cs u) (c := [(q, .inr (7, dfv 7))]) hD2, by rw [hU]; exact hS2.1, Ec.moved hW.alike hEc, Ev.warm hW hU hS2 (fun q h => h) hEv⟩⟩
  refine va_callv (a := (Value.ref q :: []).toArray) (va_runI (As := []) (n := 0) (index := 12) (rest := [.ref q]) F (mi7 (b := b) (L := L) (xs := xs) (L0 := s.heap.size) (o := q) (D := D) (cs := cs) (st := st) (adV := adV) hu h1) (cwI 0 htw (ws_goodIn (fun w9 hw9 => ?_)) rfl rfl rfl (htw _ (wq_at (i := 5) (w := .initialized RX7) (by decide +kernel))) (htw _ (wq_at (i := 103) (by decide +kernel))) (htw _ (wq_at (i := 104) (by decide +kernel))) rfl (by decide +kernel) ⟨Nat.le_of_ble_eq_true rfl, Nat.le_of_ble_eq_true rfl⟩) hpre rfl rfl hl1.1 rfl (Nat.le_of_ble_eq_true rfl) (ckD_s d12) ⟨Nat.le_of_ble_eq_true rfl, Nat.le_of_ble_eq_true rfl⟩) hS2 (fun x _ hx9 => hx9) (fun x hx9 => hx9) (fun f7 t H3 locs3 e3 _ hu7 hB _ _ hS3 => ?_)
  · rcases List.mem_cons.mp hw9 with rfl | hw9
    · exact wq_at (i := 105) (by decide +kernel)
    · exact hw9
  subst e3
  obtain ⟨hf7, hin⟩ := hu7
  have hB : va_P D vwCl (wo (adr u f7 st b) cs O1) t.heap := hB
  refine W.eq (g2 := F0 m 15 ls1 [.ref q]) rfl ?_
  refine lv_astore_n (k := 2) (i := 2) hx hb (ckD_s d15) rfl hl1 (by decide) rfl (fun ls2 hl2 => ?_)
  refine lv_iconst (v := 0) hx hb (n := 0) (ckD_s d16) rfl ?_
  refine lv_istore_n (k := 3) (i := 3) hx hb (ckD_s d17) rfl hl2 (by decide) rfl (fun ls3 hl3 => ?_)
  refine W.eq (g2 := F0 m 18 ls3 []) rfl ?_
  have h8 : O1 8 = mS L xs 8 := rnT8 (fun y a O r hy => ex8 20 y 0 (lay a) [] O r hy) ckI n0 _ _ _ _ _ h1
  have hl4 : lv_has ls3 4 (asc (adr u f7 st b) 0 [some (vr 8 0 0), some (vr 6 0 0), some (vr 7 0 0), some (vi 0)]) := by
    refine lv_mono hl3 fun x hx9 => ?_
    have hx9 : x ∈ [((0 : Nat), Value.ref b), (1, Value.ref u.1.1), (2, Value.ref (f7 0)), (3, Value.int 0)] := hx9
    rw [hf7] at hx9
    show x ∈ [((3 : Nat), Value.int 0), (2, Value.ref q), (1, Value.ref u.1.1), (0, Value.ref b)]
    simp only [List.mem_cons, List.not_mem_nil, or_false] at hx9 ⊢
    rcases hx9 with h | h | h | h <;> simp [h]
  obtain ⟨n, hn⟩ := (lim_some (fun n m r h hr => rn_le h hr)).mp h2
  refine snd_run (lw := true) (A := fun q => s.heap.size ≤ q) (O0 := O1) (tb := tbs_.getD 218 []) (ct := cts_.getD 218 []) (own := RLw) (cb := code) (ml := 4) (rt := some .int) (res := (1, O2)) (adV := adV) (ad := adr u f7 st b) (D := D) (cs := cs) (f := ex 40) (rm := rmD 40) F hEv hin (fun _ => ?_) (met_ex (inj_aw hin) (jdk_ok (inj_aw hin)) 40) (jdk_ok (inj_aw hin) 40) (fun y a O r hy => ex8 40 y 0 (lay a) [] O r hy) ⟨rfl, rfl, Nat.le_of_ble_eq_true rfl, Nat.le_of_ble_eq_true rfl⟩ ⟨Nat.le_of_ble_eq_true rfl, Nat.le_of_ble_eq_true rfl, Nat.le_of_ble_eq_true rfl, Nat.le_of_ble_eq_true rfl⟩ ck218 ?_ ?_ n 18 [some (vr 8 0 0), some (vr 6 0 0), some (vr 7 0 0), some (vi 0)] [] O1 t.heap locs3 ls3 hn rfl ?_ (fun v hv => by cases hv) hB hS3 hl4
  · refine ⟨L, xs, Nat.lt_of_le_of_lt hL (by decide), hX, hbl, fun h => absurd h (Nat.not_le.mpr hbl), ?_, fun j _ => ?_⟩
    · rw [h8]; rfl
    · rw [h8]; rfl
  · intro pc ls H locs a O' hdg _ hres _ hS'
    obtain rfl : 1 = a := (Prod.mk.inj hres).1
    exact W.widen (k := 600000) (n := 7302250) (Nat.le_of_ble_eq_true rfl) (Nat.le_of_ble_eq_true rfl) (va_forget (fun q hq => hS'.2.2 q hq) (lw_ret hx hb hr hlocks hdg))
  · intro pc ls H locs O' _ h
    cases h
  · intro v hv
    simp only [List.mem_cons, List.not_mem_nil, or_false, Option.some.injEq] at hv
    rcases hv with rfl | rfl | rfl | rfl
    · exact Or.inr (Or.inr ⟨rfl, rfl, rfl, rfl⟩)
    · exact Or.inl (by decide +kernel)
    · exact Or.inl (by decide +kernel)
    · exact trivial
