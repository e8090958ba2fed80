/-! THE LAW: the constructor, five rows, told; its checks; three rows more; its loop. -/
def lw_P (b : Addr) (xs : List Int32) (args : Array Value) (s : State) : Prop := args = #[.ref b] ∧ s.IntsAt b xs ∧ xs.length ≤ 260 ∧ (Jvm.Cond.and given_1 narrow_1).before args s = true
def lw_Q (_ : Array Value) (s : State) (o : Outcome) (t : State) : Prop := o = .returned (some (.int 1)) ∧ Framed s o t [] 600000 7302249
def lw_Z (below : List Frame) (a : Array Value) (s : State) : State → Prop := fun t => ∃ o, t.status = .running ∧ Ended t below o ∧ lw_Q a s o t
/-- the law's own end, with 1 on the stack, nothing written that was there before, its room as the claim has it -/
theorem lw_ret {p : Program} {l : Launch} {e : Env} {s : State} {m : MethodId} {below : List Frame} {meth : Method} {c : Code} {b : Nat} (hx : p.tables.exec = Jvm.exec) (hb : c.code = code) (hr : meth.sig.returnType = ret) (hlocks : meth.locks = false) {pc : Nat} {H : Heap} {ls : Array Slot} (hdg : decode code pc = .ok (.ireturn, 1)) : W p l e room_1 s m #[Value.ref b] below meth c H [] 600000 7302249 (lw_Z below #[Value.ref b] s) (F0 m pc ls [.int 1]) := by
  intro T hT X
  obtain ⟨fs, hret, hrun, hended, hW, hframe⟩ := X.leave (v := some (.int 1)) (hlocks := hlocks) (fun h => by rw [hr] at h; cases h)
  have hmeth' : T.vm.method? m = some meth := X.method'
  refine ⟨T.setFrames fs, ?_, .returned (some (.int 1)), hrun, hended, rfl, ⟨_, rfl⟩, hW, hframe⟩
  jvm_step X.here [X.here.top, hx, hb, hdg, hmeth', hr, ret, narrow_b1]
  (try refine ⟨rfl, ?_⟩); (try refine ⟨rfl, ?_⟩)
  first | (intro acts; rw [hret _ acts rfl rfl rfl]) | rw [hret _ _ rfl rfl rfl]
  exact Steps.refl _

theorem nw6 : nwOK room_1 RLw 6 10 13 97 2 yX6_init cX6_init { frames := 3, cells := 145, slots := 2139, locals := 120 } 145 2139 :=
  ⟨by decide, rfl, rfl, rfl, wq_at (i := 0) (by decide +kernel), wq_at (i := 1) (by decide +kernel), wq_at (i := 2) (by decide +kernel), rfl, by decide +kernel, rfl, by decide +kernel, wq_at (i := 4) (by decide +kernel), wq_at (i := 5) (by decide +kernel), wq_at (i := 6) (by decide +kernel), ⟨Nat.le_of_ble_eq_true rfl, Nat.le_of_ble_eq_true rfl⟩⟩
theorem d_law : ckD code 0 (.new 13) 3 = true ∧ ckD code 3 .dup 1 = true ∧ ckD code 4 (.invokespecial 97) 3 = true ∧ ckD code 7 (.astore_n 1) 1 = true ∧ ckP code 8 2 8 = true ∧ ckD code 10 (.newarray .int) 2 = true ∧ ckD code 12 (.astore_n 2) 1 = true ∧ ckP code 13 2 24 = true ∧ ckD code 15 (.newarray .int) 2 = true ∧ ckD code 17 (.astore_n 3) 1 = true ∧ ckP code 18 1 4 = true ∧ ckD code 19 (.newarray .int) 2 = true ∧ ckD code 21 (.astore 4) 2 = true ∧ ckP code 23 2 24 = true ∧ ckD code 25 (.newarray .int) 2 = true ∧ ckD code 27 (.astore 5) 2 = true ∧ ckP code 29 1 4 = true ∧ ckD code 30 (.newarray .int) 2 = true ∧ ckD code 32 (.astore 6) 2 = true := by decide +kernel
theorem d_law2 : ckD code 34 (.aload_n 1) 1 = true ∧ ckD code 35 (.aload_n 0) 1 = true ∧ ckD code 36 (.iconst 0) 1 = true ∧ ckD code 37 (.aload_n 2) 1 = true ∧ ckD code 38 (.aload_n 3) 1 = true ∧ ckD code 39 (.aload 4) 2 = true ∧ ckD code 41 (.aload 5) 2 = true ∧ ckD code 43 (.aload 6) 2 = true ∧ ckD code 45 (.invokestatic 98) 3 = true ∧ ckD code 307 (.astore 7) 2 = true ∧ ckP code 309 2 40 = true ∧ ckD code 311 (.newarray .int) 2 = true ∧ ckD code 313 (.astore 8) 2 = true ∧ ckP code 315 2 60 = true ∧ ckD code 317 (.newarray .int) 2 = true ∧ ckD code 319 (.astore 9) 2 = true := by decide +kernel
/-- what is left: numbers alone -/
def Pure_ : Prop := ∀ (L : Nat) (xs : Nat → Int32), L ≤ 260 → ∃ (O1 O2 O3 : Mem_), ex 10 129 5 [some (vr 6 0 0), some (vr 8 0 0), some (vi 0), some (vr 7 0 1), some (vr 7 0 2), some (vr 7 0 3), some (vr 7 0 4), some (vr 7 0 5), some (vr 7 0 6)] [] (mS L xs) = some (1, O1) ∧ ex 10 218 48 [some (vr 8 0 0), some (vr 6 0 0), some (vr 7 0 1), some (vr 7 0 2), some (vr 7 0 3), some (vr 7 0 4), some (vr 7 0 5)] [vi 1] O1 = some (nI 7, O2) ∧ ex 10 218 321 [some (vr 8 0 0), some (vr 6 0 0), some (vr 7 0 1), some (vr 7 0 2), some (vr 7 0 3), some (vr 7 0 4), some (vr 7 0 5), some (vr 7 0 7), some (vr 7 0 8), some (vr 7 0 9)] [] (zer (zer (zer O2 7) 8) 9) = some (1, O3)
theorem ck218 : chkT RLw code 28 (some .boolean) (tbs_.getD 218 []) = true := ck_218
theorem zer8 {O : Mem_} {p0 : Nat} : zer O p0 8 = O 8 := by
  funext n p
  exact zer_ne (by omega)
section WHOLE
variable {p : Program} {e : Env} {s : State} {m : MethodId} {below : List Frame} {meth : Method} {c : Code} {l : Launch} {b L : Nat} {xs : Nat → Int32} {D : va_G} {cs : Nat → ClassId} {adV : Nat → Nat}
/-- from behind the three rows to the end -/
theorem law_3 {ad : AD_} {O O3 : Mem_} {H : Heap} {locs : List Loc} {ls : Array Slot} {cells slots : Nat} (hx : p.tables.exec = Jvm.exec) (hb : c.code = code) (hr : meth.sig.returnType = ret) (hlocks : meth.locks = false) (F : Fr p s m #[Value.ref b] c RLw code 28) (hEv : Ev D ad cs adV (fun q => s.heap.size ≤ q) s) (hsc : Scr ad (fun q => s.heap.size ≤ q) s O) (hin : Inj_ 9 ad (fun q => s.heap.size ≤ q)) (h3 : ex 10 218 321 [some (vr 8 0 0), some (vr 6 0 0), some (vr 7 0 1), some (vr 7 0 2), some (vr 7 0 3), some (vr 7 0 4), some (vr 7 0 5), some (vr 7 0 7), some (vr 7 0 8), some (vr 7 0 9)] [] O = some (1, O3)) (hP : va_P D vwCl (wo 9 ad cs O) H) (hS : va_S (fun q => s.heap.size ≤ q) s.heap H locs) (hl : lv_has ls 28 (asc ad 0 [some (vr 8 0 0), some (vr 6 0 0), some (vr 7 0 1), some (vr 7 0 2), some (vr 7 0 3), some (vr 7 0 4), some (vr 7 0 5), some (vr 7 0 7), some (vr 7 0 8), some (vr 7 0 9)])) (hcl : cells ≤ 600000) (hsl : slots ≤ 7302249) :
    W p l e room_1 s m #[Value.ref b] below meth c H locs cells slots (lw_Z below #[Value.ref b] s) (F0 m 321 ls []) := by
  obtain ⟨n, hn⟩ := (lim_some (fun n m r h hr => rn_le h hr)).mp h3
  refine snd_run (lw := 9) (A := fun q => s.heap.size ≤ q) (O0 := O) (tb := tbs_.getD 218 []) (ct := cts_.getD 218 []) (own := RLw) (cb := code) (ml := 28) (rt := some .boolean) (res := (1, O3)) (adV := adV) (ad := ad) (D := D) (cs := cs) (f := ex 9) (rm := rmD 9) F hEv hin hsc (met_ex (inj_aw hin) (jdk_ok (inj_aw hin)) 9) (jdk_ok (inj_aw hin) 9) (fun y a O r hy => ex8 9 y 0 (lay a) [] O r hy) ⟨rfl, rfl, Nat.le_of_ble_eq_true rfl, Nat.le_of_ble_eq_true rfl⟩ ⟨Nat.le_of_ble_eq_true rfl, Nat.le_of_ble_eq_true rfl, hcl, hsl⟩ ck218 ?_ ?_ ?_ n 321 [some (vr 8 0 0), some (vr 6 0 0), some (vr 7 0 1), some (vr 7 0 2), some (vr 7 0 3), some (vr 7 0 4), some (vr 7 0 5), some (vr 7 0 7), some (vr 7 0 8), some (vr 7 0 9)] [] O H locs ls hn rfl ?_ (fun v hv => by cases hv) hP hS hl
  · intro pc ls H locs a O' hdg _ hres _ hS'
    obtain rfl : 1 = a := (Prod.mk.inj hres).1
    exact W.widen (k := 600000) (n := 7302249) hcl hsl (va_forget (fun q hq => hS'.2.2 q hq) (lw_ret hx hb hr hlocks hdg))
  · intro pc ls H locs O' _ h
    cases h
  · intro ls H locs O' _ _ hres
    exact absurd (Prod.mk.inj hres).1 (by decide)
  · intro v hv
    simp only [List.mem_cons, List.not_mem_nil, or_false, Option.some.injEq] at hv
    rcases hv with rfl | rfl | rfl | rfl | rfl | rfl | rfl | rfl | rfl | rfl
    · exact Or.inr (Or.inr ⟨rfl, rfl, rfl⟩)
    · exact Or.inl (by decide +kernel)
    · exact Or.inl (by decide +kernel)
    · exact Or.inl (by decide +kernel)
    · exact Or.inl (by decide +kernel)
    · exact Or.inl (by decide +kernel)
    · exact Or.inl (by decide +kernel)
    · exact Or.inl (by decide +kernel)
    · exact Or.inl (by decide +kernel)
    · exact Or.inl (by decide +kernel)
abbrev lL5 (ad : AD_) : List (Nat × Value) := [(0, .ref (ad 8 0 0)), (1, .ref (ad 6 0 0)), (2, .ref (ad 7 0 1)), (3, .ref (ad 7 0 2)), (4, .ref (ad 7 0 3)), (5, .ref (ad 7 0 4)), (6, .ref (ad 7 0 5))]
/-- three rows more, and on -/
theorem law_2 {ad : AD_} {O O3 : Mem_} {H : Heap} {locs : List Loc} {ls : Array Slot} {cells slots : Nat} (hx : p.tables.exec = Jvm.exec) (hb : c.code = code) (hr : meth.sig.returnType = ret) (hlocks : meth.locks = false) (F : Fr p s m #[Value.ref b] c RLw code 28) (hK : va_K D vwCl (tyL cs) s) (hEv : Ev D ad cs adV (fun q => s.heap.size ≤ q) s) (hsc : Scr ad (fun q => s.heap.size ≤ q) s O) (hin : Inj_ 5 ad (fun q => s.heap.size ≤ q)) (h3 : ex 10 218 321 [some (vr 8 0 0), some (vr 6 0 0), some (vr 7 0 1), some (vr 7 0 2), some (vr 7 0 3), some (vr 7 0 4), some (vr 7 0 5), some (vr 7 0 7), some (vr 7 0 8), some (vr 7 0 9)] [] (zer (zer (zer O 7) 8) 9) = some (1, O3)) (hP : va_P D vwCl (wo 5 ad cs O) H) (hS : va_S (fun q => s.heap.size ≤ q) s.heap H locs) (hl : lv_has ls 28 (lL5 ad)) (hcl : cells + 3 ≤ 600000) (hsl : slots + 160 ≤ 7302249) (hdg : decode code 305 = .ok (.newarray .int, 2)) :
    W p l e room_1 s m #[Value.ref b] below meth c H locs cells slots (lw_Z below #[Value.ref b] s) (F0 m 305 ls [.int (nI 60)]) := by
  obtain ⟨-, -, -, -, -, -, -, -, -, d307, d309, d311, d313, d315, d317, d319⟩ := d_law2
  have hI : (Cond.arrayClass .int).before #[Value.ref b] s = true := F.2.2.2.2 _ (wq_at (i := 3) (by decide +kernel))
  refine nw_row (lw := 5) (lw' := 7) (p0 := 7) (rest := []) (A := fun q => s.heap.size ≤ q) rfl hx hb rfl (by decide) (by decide) rfl (by decide) hI hK hP hin hS (fun q hq => hq) (by show cells + 1 ≤ 600000; omega) (by show slots + 60 ≤ 7302249; omega) hdg (fun q7 H7 hP7 hin7 hS7 => ?_)
  refine lv_astore (i := 7) hx hb (ckD_s d307) hl (by decide) rfl (fun ls7 hl7 => ?_)
  refine psh (pc := 309) hx hb d309 ?_
  refine nw_row (lw := 7) (lw' := 8) (p0 := 8) (rest := []) (pc := 311) (A := fun q => s.heap.size ≤ q) rfl hx hb rfl (by decide) (by decide) rfl (by decide) hI hK hP7 hin7 hS7 (fun q hq => hq) (by show cells + 1 + 1 ≤ 600000; omega) (by show slots + 60 + 40 ≤ 7302249; omega) (ckD_s d311) (fun q8 H8 hP8 hin8 hS8 => ?_)
  refine lv_astore (i := 8) (pc := 313) hx hb (ckD_s d313) hl7 (by decide) rfl (fun ls8 hl8 => ?_)
  refine psh (pc := 315) hx hb d315 ?_
  refine nw_row (lw := 8) (lw' := 9) (p0 := 9) (rest := []) (pc := 317) (A := fun q => s.heap.size ≤ q) rfl hx hb rfl (by decide) (by decide) rfl (by decide) hI hK hP8 hin8 hS8 (fun q hq => hq) (by show cells + 1 + 1 + 1 ≤ 600000; omega) (by show slots + 60 + 40 + 60 ≤ 7302249; omega) (ckD_s d317) (fun q9 H9 hP9 hin9 hS9 => ?_)
  refine lv_astore (i := 9) (pc := 319) hx hb (ckD_s d319) hl8 (by decide) rfl (fun ls9 hl9 => ?_)
  refine W.eq (g2 := F0 m 321 ls9 []) rfl ?_
  refine law_3 (ad := adu (adu (adu ad 7 q7) 8 q8) 9 q9) hx hb hr hlocks F hEv.adu.adu.adu ?_ hin9 h3 hP9 hS9 ?_ (by omega) (by omega)
  · obtain ⟨L, xs, hL, hX, hbl, hbA, hlen, hxs⟩ := hsc.adu (p0 := 7) (q := q7) |>.adu (p0 := 8) (q := q8) |>.adu (p0 := 9) (q := q9)
    exact ⟨L, xs, hL, hX, hbl, hbA, by rw [zer8, zer8, zer8]; exact hlen, fun j hj => by rw [zer8, zer8, zer8]; exact hxs j hj⟩
  · refine lv_mono hl9 fun x hx9 => ?_
    generalize hA : adu (adu (adu ad 7 q7) 8 q8) 9 q9 = a9 at hx9
    have hx9 : x ∈ [((0 : Nat), Value.ref (a9 8 0 0)), (1, .ref (a9 6 0 0)), (2, .ref (a9 7 0 1)), (3, .ref (a9 7 0 2)), (4, .ref (a9 7 0 3)), (5, .ref (a9 7 0 4)), (6, .ref (a9 7 0 5)), (7, .ref (a9 7 0 7)), (8, .ref (a9 7 0 8)), (9, .ref (a9 7 0 9))] := hx9
    have e : ∀ c n p, ¬ (c = 7 ∧ n = 0 ∧ 7 ≤ p) → a9 c n p = ad c n p := fun c n p z => by rw [← hA, adu_ne (by omega), adu_ne (by omega), adu_ne (by omega)]
    have e7 : a9 7 0 7 = q7 := by rw [← hA, adu_ne (by omega), adu_ne (by omega), adu_eq]
    have e8 : a9 7 0 8 = q8 := by rw [← hA, adu_ne (by omega), adu_eq]
    have e9 : a9 7 0 9 = q9 := by rw [← hA, adu_eq]
    rw [e7, e8, e9, e _ _ _ (by omega), e _ _ _ (by omega), e _ _ _ (by omega), e _ _ _ (by omega), e _ _ _ (by omega), e _ _ _ (by omega), e _ _ _ (by omega)] at hx9
    show x ∈ [((9 : Nat), Value.ref q9), (8, .ref q8), (7, .ref q7), (0, .ref (ad 8 0 0)), (1, .ref (ad 6 0 0)), (2, .ref (ad 7 0 1)), (3, .ref (ad 7 0 2)), (4, .ref (ad 7 0 3)), (5, .ref (ad 7 0 4)), (6, .ref (ad 7 0 5))]
    simp only [List.mem_cons, List.not_mem_nil, or_false] at hx9 ⊢
    rcases hx9 with h | h | h | h | h | h | h | h | h | h <;> simp [h]
end WHOLE
set_option maxRecDepth 20000 in
set_option maxHeartbeats 2000000 in
theorem whole_of (hpure : Pure_) {p : Program} {e : Env} {s : State} {m : MethodId} {below : List Frame} {meth : Method} {c : Code} (l : Launch) {b L : Nat} {xs : Nat → Int32} (hL : L ≤ 260) (C0 : lw_At p s m meth c b L xs) : W p l e room_1 s m #[Value.ref b] below meth c s.heap [] 0 0 (lw_Z below #[Value.ref b] s) (entryFrame m ([Value.ref b] : List Value).toArray 28) := by
  obtain ⟨D, cs, st, adV, hEs, hEc⟩ := law_env C0
  obtain ⟨O1, O2, O3, h1, h2, h3⟩ := hpure L xs hL
  obtain ⟨hx, hb, hr, hml, hown, hts, hX, hbl, hlocks, hgv⟩ := C0
  have htw : ∀ w ∈ wsL_law, w.before #[Value.ref b] s = true := fun w hw => hts w (wsL_law_in w hw)
  have F : Fr p s m #[Value.ref b] c RLw code 28 := ⟨hx, hb, hml, hown, htw⟩
  obtain ⟨d0, d3, d4, d7, d8, d10, d12, d13, d15, d17, d18, d19, d21, d23, d25, d27, d29, d30, d32⟩ := d_law
  obtain ⟨d34, d35, d36, d37, d38, d39, d41, d43, d45, -⟩ := d_law2
  have hI : (Cond.arrayClass .int).before #[Value.ref b] s = true := htw _ (wq_at (i := 3) (by decide +kernel))
  have hK := hEc.1
  have hl := lv_entry [Value.ref b] (n := 28) (Nat.le_of_ble_eq_true rfl)
  rw [lg_entry_eq]
  generalize (lg_sl [Value.ref b] ++ List.replicate (28 - (lg_sl [Value.ref b]).length) Slot.unset).toArray = ls at hl ⊢
  have hP0 : va_P D vwCl [] s.heap := fun k q hk => by simp at hk
  have hD0 : va_D (fun q => s.heap.size ≤ q) [] := ⟨fun i j p q hi => by simp at hi, fun k q hk => by simp at hk⟩
  refine new_obj (adr := fun u : S6_ => u.1.1) (pst := pst6) (w := w6 cs) (ci := 6) (N := 10) (i1 := 13) (i2 := 97) (maxL := 2) (mc := 145) (ms := 2139) (y := yX6_init) (yc := cX6_init) (rm := { frames := 3, cells := 145, slots := 2139, locals := 120 }) (ws := []) (rest := []) (A := fun q => s.heap.size ≤ q) F hEc (fun q hq => hq) hl.1 (fun o sz => mi6) nw6 hP0 hD0 va_S.rf (Nat.le_of_ble_eq_true rfl) (Nat.le_of_ble_eq_true rfl) (ckD_s d0) (ckD_s d3) (ckD_s d4) (Nat.le_of_ble_eq_true rfl) (fun u H1 locs1 hu hP1 hD1 hS1 => ?_)
  refine W.eq (g2 := F0 m 7 ls [.ref u.1.1]) rfl ?_
  refine lv_astore_n (k := 1) (i := 1) hx hb (ckD_s d7) rfl hl (by decide) rfl (fun ls1 hl1 => ?_)
  rw [List.nil_append] at hP1 hD1
  obtain ⟨hPa, htag⟩ := wo_of (cs := cs) (b := b) (st := st) (f7 := fun _ => 0) hu hP1
  have hina := inj_of hD1 htag
  generalize had : adr u (fun _ => 0) st b = ad at hPa hina
  have e6 : ad 6 0 0 = u.1.1 := by rw [← had]; rfl
  have e8 : ad 8 0 0 = b := by rw [← had]; rfl
  have hEv : Ev D ad cs adV (fun q => s.heap.size ≤ q) s := by
    have h9 : ad 9 = fun i _ => st i := by rw [← had]; rfl
    unfold Ev
    rw [h9]
    exact hEs
  have hsc : Scr ad (fun q => s.heap.size ≤ q) s (mS L xs) := ⟨L, xs, Nat.lt_of_le_of_lt hL (by decide), by rw [e8]; exact hX, by rw [e8]; exact hbl, fun h => by rw [e8] at h; exact absurd h (Nat.not_le.mpr hbl), rfl, fun j _ => rfl⟩
  rw [← wo_mS (L := L) (xs := xs)] at hPa
  refine psh (pc := 8) hx hb d8 ?_
  refine nw_row (lw := 0) (lw' := 1) (p0 := 1) (rest := []) (pc := 10) (A := fun q => s.heap.size ≤ q) rfl hx hb rfl (by decide) (by decide) rfl (by decide) hI hK hPa hina hS1 (fun q hq => hq) (Nat.le_of_ble_eq_true rfl) (Nat.le_of_ble_eq_true rfl) (ckD_s d10) (fun q1 H2 hP2 hin2 hS2 => ?_)
  rw [zer_mS] at hP2
  refine lv_astore_n (k := 2) (i := 2) (pc := 12) hx hb (ckD_s d12) rfl hl1 (by decide) rfl (fun ls2 hl2 => ?_)
  refine psh (pc := 13) hx hb d13 ?_
  refine nw_row (lw := 1) (lw' := 2) (p0 := 2) (rest := []) (pc := 15) (A := fun q => s.heap.size ≤ q) rfl hx hb rfl (by decide) (by decide) rfl (by decide) hI hK hP2 hin2 hS2 (fun q hq => hq) (Nat.le_of_ble_eq_true rfl) (Nat.le_of_ble_eq_true rfl) (ckD_s d15) (fun q2 H3 hP3 hin3 hS3 => ?_)
  rw [zer_mS] at hP3
  refine lv_astore_n (k := 3) (i := 3) (pc := 17) hx hb (ckD_s d17) rfl hl2 (by decide) rfl (fun ls3 hl3 => ?_)
  refine psh (pc := 18) hx hb d18 ?_
  refine nw_row (lw := 2) (lw' := 3) (p0 := 3) (rest := []) (pc := 19) (A := fun q => s.heap.size ≤ q) rfl hx hb rfl (by decide) (by decide) rfl (by decide) hI hK hP3 hin3 hS3 (fun q hq => hq) (Nat.le_of_ble_eq_true rfl) (Nat.le_of_ble_eq_true rfl) (ckD_s d19) (fun q3 H4 hP4 hin4 hS4 => ?_)
  rw [zer_mS] at hP4
  refine lv_astore (i := 4) (pc := 21) hx hb (ckD_s d21) hl3 (by decide) rfl (fun ls4 hl4 => ?_)
  refine psh (pc := 23) hx hb d23 ?_
  refine nw_row (lw := 3) (lw' := 4) (p0 := 4) (rest := []) (pc := 25) (A := fun q => s.heap.size ≤ q) rfl hx hb rfl (by decide) (by decide) rfl (by decide) hI hK hP4 hin4 hS4 (fun q hq => hq) (Nat.le_of_ble_eq_true rfl) (Nat.le_of_ble_eq_true rfl) (ckD_s d25) (fun q4 H5 hP5 hin5 hS5 => ?_)
  rw [zer_mS] at hP5
  refine lv_astore (i := 5) (pc := 27) hx hb (ckD_s d27) hl4 (by decide) rfl (fun ls5 hl5 => ?_)
  refine psh (pc := 29) hx hb d29 ?_
  refine nw_row (lw := 4) (lw' := 5) (p0 := 5) (rest := []) (pc := 30) (A := fun q => s.heap.size ≤ q) rfl hx hb rfl (by decide) (by decide) rfl (by decide) hI hK hP5 hin5 hS5 (fun q hq => hq) (Nat.le_of_ble_eq_true rfl) (Nat.le_of_ble_eq_true rfl) (ckD_s d30) (fun q5 H6 hP6 hin6 hS6 => ?_)
  rw [zer_mS] at hP6
  refine lv_astore (i := 6) (pc := 32) hx hb (ckD_s d32) hl5 (by decide) rfl (fun ls6 hl6 => ?_)
  have hEv6 : Ev D (adu (adu (adu (adu (adu ad 1 q1) 2 q2) 3 q3) 4 q4) 5 q5) cs adV (fun q => s.heap.size ≤ q) s := hEv.adu.adu.adu.adu.adu
  have hsc6 : Scr (adu (adu (adu (adu (adu ad 1 q1) 2 q2) 3 q3) 4 q4) 5 q5) (fun q => s.heap.size ≤ q) s (mS L xs) := hsc.adu.adu.adu.adu.adu
  generalize hA : adu (adu (adu (adu (adu ad 1 q1) 2 q2) 3 q3) 4 q4) 5 q5 = a5 at hP6 hin6 hEv6 hsc6
  have e : ∀ c n p, c ≠ 7 → a5 c n p = ad c n p := fun c n p z => by rw [← hA, adu_ne (by omega), adu_ne (by omega), adu_ne (by omega), adu_ne (by omega), adu_ne (by omega)]
  have f1 : a5 7 0 1 = q1 := by rw [← hA, adu_ne (by omega), adu_ne (by omega), adu_ne (by omega), adu_ne (by omega), adu_eq]
  have f2 : a5 7 0 2 = q2 := by rw [← hA, adu_ne (by omega), adu_ne (by omega), adu_ne (by omega), adu_eq]
  have f3 : a5 7 0 3 = q3 := by rw [← hA, adu_ne (by omega), adu_ne (by omega), adu_eq]
  have f4 : a5 7 0 4 = q4 := by rw [← hA, adu_ne (by omega), adu_eq]
  have f5 : a5 7 0 5 = q5 := by rw [← hA, adu_eq]
  have g8 : a5 8 0 0 = b := (e _ _ _ (by decide)).trans e8
  have g6 : a5 6 0 0 = u.1.1 := (e _ _ _ (by decide)).trans e6
  have hlA : lv_has ls6 28 (lL5 a5) := by
    refine lv_mono hl6 fun x hx9 => ?_
    unfold lL5 at hx9
    rw [f1, f2, f3, f4, f5, g6, g8] at hx9
    show x ∈ [((6 : Nat), Value.ref q5), (5, .ref q4), (4, .ref q3), (3, .ref q2), (2, .ref q1), (1, .ref u.1.1), (0, .ref b)]
    simp only [List.mem_cons, List.not_mem_nil, or_false] at hx9 ⊢
    rcases hx9 with h | h | h | h | h | h | h <;> simp [h]
  refine lv_aload_n (k := 1) (i := 1) (pc := 34) hx hb (ckD_s d34) rfl (lv_at hlA 1 rfl) ?_
  refine lv_aload_n (k := 0) (i := 0) (pc := 35) hx hb (ckD_s d35) rfl (lv_at hlA 0 rfl) ?_
  refine lv_iconst (v := 0) (pc := 36) hx hb (n := 0) (ckD_s d36) rfl ?_
  refine lv_aload_n (k := 2) (i := 2) (pc := 37) hx hb (ckD_s d37) rfl (lv_at hlA 2 rfl) ?_
  refine lv_aload_n (k := 3) (i := 3) (pc := 38) hx hb (ckD_s d38) rfl (lv_at hlA 3 rfl) ?_
  refine lv_aload (i := 4) (pc := 39) hx hb (ckD_s d39) (lv_at hlA 4 rfl) ?_
  refine lv_aload (i := 5) (pc := 41) hx hb (ckD_s d41) (lv_at hlA 5 rfl) ?_
  refine lv_aload (i := 6) (pc := 43) hx hb (ckD_s d43) (lv_at hlA 6 rfl) ?_
  have hpre : PreS s H6 (tPc D cs adV s.heap.size a5 (mS L xs)) (tArgs a5) := ⟨tPc_bl, fun U hU hW => ⟨rfl, by rw [hU]; exact hP6, hin6, by rw [hU]; exact hS6.1, va_K.moved hW.alike hK, Ev.warm hW hU hS6 (fun q h => h) hEv6, Scr.warm hW hU hS6 (fun q h => h) rfl hsc6⟩⟩
  refine va_calli (a := (tArgs a5).toArray) (va_runS (n := 8) (index := 98) (rest := []) F (mTold (l := l) (L0 := s.heap.size) (D := D) (cs := cs) (adV := adV) (ad := a5) h1) (va_cwS 8 htw (ws_goodIn (fun w hw0 => ?_)) rfl rfl rfl (by decide +kernel) ⟨Nat.le_of_ble_eq_true rfl, Nat.le_of_ble_eq_true rfl⟩) hpre rfl rfl hlA.1 rfl (Nat.le_of_ble_eq_true rfl) (ckD_s d45) ⟨Nat.le_of_ble_eq_true rfl, Nat.le_of_ble_eq_true rfl⟩) hS6 (fun x _ hx9 => hx9) (fun x hx9 => hx9) (fun v u9 t H7 locs7 e7 _ hv hB _ _ hS7 => ?_)
  · rcases List.mem_append.mp hw0 with hw0 | hw0
    · simp only [List.mem_cons, List.not_mem_nil, or_false] at hw0
      rcases hw0 with rfl | rfl | rfl
      · exact wq_at (i := 99) (by decide +kernel)
      · exact wq_at (i := 100) (by decide +kernel)
      · exact wq_at (i := 101) (by decide +kernel)
    · rcases List.mem_cons.mp hw0 with rfl | hw0
      · exact wq_at wq_c129
      · exact hw0
  subst e7
  subst hv
  have hB : va_P D vwCl (wo 5 a5 cs O1) t.heap := hB
  refine W.eq (g2 := F0 m 48 ls6 [.int 1]) rfl ?_
  have h8 : O1 8 = mS L xs 8 := ex8 10 129 _ _ _ _ _ h1
  have h82 : O2 8 = O1 8 := ex8 10 218 _ _ _ _ _ h2
  have hscB : ∀ O : Mem_, O 8 = mS L xs 8 → Scr a5 (fun q => s.heap.size ≤ q) s O := fun O hO => by
    obtain ⟨L', xs', a1, a2, a3, a4, a5', a6⟩ := hsc6
    exact ⟨L', xs', a1, a2, a3, a4, by rw [hO]; exact a5', fun j hj => by rw [hO]; exact a6 j hj⟩
  obtain ⟨n, hn⟩ := (lim_some (fun n m r h hr => rn_le h hr)).mp h2
  refine snd_run (lw := 5) (A := fun q => s.heap.size ≤ q) (O0 := O1) (tb := tbs_.getD 218 []) (ct := cts_.getD 218 []) (own := RLw) (cb := code) (ml := 28) (rt := some .boolean) (res := (nI 7, O2)) (adV := adV) (ad := a5) (D := D) (cs := cs) (f := ex 9) (rm := rmD 9) F hEv6 hin6 (hscB O1 h8) (met_ex (inj_aw hin6) (jdk_ok (inj_aw hin6)) 9) (jdk_ok (inj_aw hin6) 9) (fun y a O r hy => ex8 9 y 0 (lay a) [] O r hy) ⟨rfl, rfl, Nat.le_of_ble_eq_true rfl, Nat.le_of_ble_eq_true rfl⟩ ⟨Nat.le_of_ble_eq_true rfl, Nat.le_of_ble_eq_true rfl, Nat.le_of_ble_eq_true rfl, Nat.le_of_ble_eq_true rfl⟩ ck218 ?_ ?_ ?_ n 48 [some (vr 8 0 0), some (vr 6 0 0), some (vr 7 0 1), some (vr 7 0 2), some (vr 7 0 3), some (vr 7 0 4), some (vr 7 0 5)] [vi 1] O1 t.heap locs7 ls6 hn rfl ?_ (fun v hv => by simp only [List.mem_cons, List.not_mem_nil, or_false] at hv; subst hv; exact trivial) hB hS7 hlA
  · intro pc ls H locs a O' _ hrt hres _ _
    have ha : nI 7 = a := (Prod.mk.inj hres).1
    rcases hrt with h | ⟨-, h | h⟩
    · cases h
    · rw [← ha] at h; exact absurd h (by decide)
    · rw [← ha] at h; exact absurd h (by decide)
  · intro pc ls H locs O' _ h
    cases h
  · intro ls H locs O' hdg _ hres hP' hS' hl'
    obtain rfl : O2 = O' := (Prod.mk.inj hres).2
    exact law_2 hx hb hr hlocks F hK hEv6 (hscB O2 (h82.trans h8)) hin6 h3 hP' hS' hl' (Nat.le_of_ble_eq_true rfl) (Nat.le_of_ble_eq_true rfl) hdg
  · intro v hv
    simp only [List.mem_cons, List.not_mem_nil, or_false, Option.some.injEq] at hv
    rcases hv with rfl | rfl | rfl | rfl | rfl | rfl | rfl
    · exact Or.inr (Or.inr ⟨rfl, rfl, rfl⟩)
    · exact Or.inl (by decide +kernel)
    · exact Or.inl (by decide +kernel)
    · exact Or.inl (by decide +kernel)
    · exact Or.inl (by decide +kernel)
    · exact Or.inl (by decide +kernel)
    · exact Or.inl (by decide +kernel)
