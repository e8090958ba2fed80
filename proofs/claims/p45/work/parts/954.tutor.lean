/-! CONSTRUCTORS of Tutor, Sheets. -/
theorem wq_in {i : Nat} {w : Jvm.Cond} (h : wq i w = true) : w ∈ wsL_law := wq_at h
def w5 (cs : Nat → ClassId) (u : (Nat → Nat) × List (Nat → Nat) × List (Nat → Nat)) : va_W := [(u.1 0, .inr (5, [.ref (u.1 1), .int 0, .ref (u.1 3), .int 0, .ref (u.1 5), .ref (u.1 6), .ref (u.1 7), .int 0, .int 0, .int 0])), (u.1 1, .inl (cs 0, 5, .inl fun _ => 0)), (u.1 3, .inl (cs 0, 4, .inl fun _ => 0)), (u.1 5, .inl (cs 0, 4, .inl fun _ => 0)), (u.1 6, .inl (cs 3, 6, .inr (.inr (.inr (.inr (refsOf u.2.1)))))), (u.1 7, .inl (cs 3, 5, .inr (.inr (.inr (.inr (refsOf u.2.2))))))] ++ (u.2.1.flatMap (sl cs 0 mZ) ++ u.2.2.flatMap (sl cs 0 mZ))
def pst5 (u : (Nat → Nat) × List (Nat → Nat) × List (Nat → Nat)) : Prop := u.2.1.length = 6 ∧ u.2.2.length = 5
theorem nI0 : Int32.ofInt 0 = nI 0 := by decide +kernel
theorem D1 {A : Nat → Prop} {o : Nat} {e : va_E} (hA : A o) : va_D A [(o, e)] := by
  refine ⟨fun i j p q hi hj _ => ?_, fun k q hk => ?_⟩
  · have hi := (List.getElem?_eq_some_iff.mp hi).1
    have hj := (List.getElem?_eq_some_iff.mp hj).1
    simp at hi hj
    omega
  · cases k with
    | zero => cases hk; exact hA
    | succ k => simp at hk
section TUT
variable {l : Launch} {D : va_G} {cs : Nat → ClassId} {o sz : Nat}
theorem mi_start {y : MethodName} {cb : ByteArray} {ci i w mL mc ms : Nat} {rm : Room} {Qc : Array Value → State → Outcome → State → Prop} (hpl : plainName y.cls = true) (hnm : y.name = "<init>") (h1L : 1 ≤ mL) (hR : 1 ≤ rm.frames ∧ 12 ≤ rm.locals) (h0 : ckD cb 0 (.aload_n 0) 1 = true) (h1 : ckD cb 1 (.invokespecial i) 3 = true) (hw : wq w (.methodLink y.cls i objectInit) = true)
    (body : ∀ (p : Program) (e : Env) (s : State) (m : MethodId) (below : List Frame) (meth : Method) (c : Code) (ls : Array Slot), Fr p s m #[Value.ref o] c y.cls cb mL → meth.name = "<init>" → meth.sig.returnType = none → meth.locks = false → va_P D vwCl [(o, .inr (ci, dfv ci))] s.heap → o < s.heap.size → s.heap.size = sz → Ec D cs s → lv_has ls mL [(0, .ref o)] → W p l e rm s m #[Value.ref o] below meth c s.heap [] 0 0 (MQ below Qc #[Value.ref o] s mc ms (va_A [(o, .inr (ci, dfv ci))] sz)) (F0 m 4 ls [])) :
    Met l y (.code y cb mL none :: wsL_law) rm (iPc D cs o sz ci) Qc mc ms (va_A [(o, .inr (ci, dfv ci))] sz) := by
  refine Met.ofW (cc := cb) (maxL := mL) (ret := none) hpl rfl ?_
  intro p e s m args below meth c s₁ B hml hv
  obtain ⟨rfl, hsz, hP, ho, hE⟩ := hv
  have hts0 := atoms_spec (ws := .code y cb mL none :: wsL_law) B.pre
  have hts : ∀ w ∈ wsL_law, w.before #[Value.ref o] s = true := fun w hw => hts0 w (List.mem_cons_of_mem _ hw)
  have hown : s.vm.findClass y.cls = some m.cls := findClass_of_methodNamed B.named
  have hin : meth.name = "<init>" := (name_of_methodNamed B.named B.method).1.trans hnm
  have F : Fr p s m #[Value.ref o] c y.cls cb mL := ⟨B.exec, B.bytes, hml, hown, hts⟩
  obtain ⟨-, -, w11, w12⟩ := wds_n
  have hl := lv_entry [Value.ref o] (n := mL) (by exact h1L)
  rw [lg_entry_eq]
  generalize (lg_sl [Value.ref o] ++ List.replicate (mL - (lg_sl [Value.ref o]).length) Slot.unset).toArray = ls at hl ⊢
  have hl0 : ls[0]? = some (.val (.ref o)) := lv_at hl 0 rfl
  refine lv_aload_n B.exec B.bytes (ckD_s h0) rfl hl0 ?_
  refine W.objInit B.exec B.bytes hown (hts _ (wq_at hw)) (hts _ (wq_at w11)) (hts _ (wq_at w12)) rfl (by rw [hml]; exact hl.1) rfl (ckD_s h1) hR.1 hR.2 ?_
  refine W.eq (g2 := F0 m 4 ls []) rfl ?_
  exact body p e s m below meth c ls F hin B.returns B.notSynchronized hP (by omega) hsz hE hl

theorem nw0 {R : Room} {own : String} {i1 i2 a b : Nat} (ha : wq a (.classLink own i1 RX0) = true) (hb : wq b (.methodLink own i2 yX0_init) = true) (hR : 2 ≤ R.frames ∧ 60 ≤ R.locals) : nwOK R own 0 6 i1 i2 1 yX0_init cX0_init { frames := 1, cells := 5, slots := 64, locals := 40 } 5 64 :=
  ⟨by decide, rfl, rfl, rfl, wq_at ha, wq_at (i := 25) (by decide +kernel), wq_at (i := 26) (by decide +kernel), rfl, by decide +kernel, rfl, by decide +kernel, wq_at hb, wq_at (i := 72) (by decide +kernel), wq_at (i := 73) (by decide +kernel), hR⟩
set_option maxRecDepth 20000 in
set_option maxHeartbeats 2000000 in
theorem mi5 : Met l yX5_init (.code yX5_init cX5_init 2 none :: wsL_law) { frames := 2, cells := 71, slots := 794, locals := 80 } (iPc D cs o sz 5) (iQg (fun u : (Nat → Nat) × List (Nat → Nat) × List (Nat → Nat) => u.1 0) pst5 (w5 cs) D o sz 5) 71 794 (va_A [(o, .inr (5, dfv 5))] sz) := by
  refine mi_start (i := 3) (w := 83) (by decide +kernel) rfl (by decide) ⟨by decide, by decide⟩ (by decide +kernel) (by decide +kernel) (by decide +kernel) ?_
  intro p e s m below meth c ls F hin hr hlocks hP ho hsz hE hl
  subst hsz
  have hAA : ∀ q, s.heap.size ≤ q → va_A [(o, .inr (5, dfv 5))] s.heap.size q := fun q hq => Or.inr hq
  have hl0 : ls[0]? = some (.val (.ref o)) := lv_at hl 0 rfl
  refine bks_run (A := va_A [(o, .inr (5, dfv 5))] s.heap.size) (arrs := []) F hE.1 (by decide) hin hAA hl0 bk5 4 (dfv 5) 0 0 s.heap [] (by decide +kernel) (by decide +kernel) hP (D1 (Or.inl ⟨0, _, rfl⟩)) va_S.rf (Nat.le_of_ble_eq_true rfl) (Nat.le_of_ble_eq_true rfl) (fun qs H1 locs1 hq hP1 hD1 hS1 => ?_)
  obtain ⟨q1, q2, q3, rfl⟩ : ∃ a b c, qs = [a, b, c] := by
    match qs, hq with
    | [a, b, c], _ => exact ⟨a, b, c, rfl⟩
  refine W.eq (g2 := F0 m 25 ls []) rfl ?_
  refine put_row (C := RX0) (L := 2) (N := 6) (t0 := 3) (i1 := 21) (c0 := 5) (k := 5) (i3 := 23) (o := o) (fs := [.ref q1, .int 0, .ref q2, .int 0, .ref q3, .null, .null, .int 0, .int 0, .int 0]) (X := [(q1, .inl (cs 0, 5, .inl fun _ => 0)), (q2, .inl (cs 0, 4, .inl fun _ => 0)), (q3, .inl (cs 0, 4, .inl fun _ => 0))]) (ty := .array (.object RX0)) F hE hAA hin hl0 (wq_at (i := 87) (by decide +kernel)) hE.2.2.1 rfl (by decide) ⟨by decide, by decide +kernel, wq_at (i := 88) (by decide +kernel), rfl, by decide +kernel, fun a => ⟨rfl, rfl⟩⟩ rfl hP1 hD1 hS1 (Nat.le_of_ble_eq_true rfl) (Nat.le_of_ble_eq_true rfl) (ckD_s (by decide +kernel)) (by decide +kernel) (ckD_s (by decide +kernel)) (ckD_s (by decide +kernel)) (fun a H2 locs2 hP2 hD2 hS2 => ?_)
  refine W.eq (g2 := F0 m 34 ls []) rfl ?_
  refine put_row (C := RX0) (L := 1) (N := 5) (t0 := 3) (i1 := 21) (c0 := 5) (k := 6) (i3 := 27) (o := o) (fs := [.ref q1, .int 0, .ref q2, .int 0, .ref q3, .ref a, .null, .int 0, .int 0, .int 0]) (X := [(q1, .inl (cs 0, 5, .inl fun _ => 0)), (q2, .inl (cs 0, 4, .inl fun _ => 0)), (q3, .inl (cs 0, 4, .inl fun _ => 0)), (a, .inl (cs 3, 6, .inr (.inr (.inr (.inr (refsOf []))))))]) (ty := .array (.object RX0)) F hE hAA hin hl0 (wq_at (i := 87) (by decide +kernel)) hE.2.2.1 rfl (by decide) ⟨by decide, by decide +kernel, wq_at (i := 89) (by decide +kernel), rfl, by decide +kernel, fun a => ⟨rfl, rfl⟩⟩ rfl hP2 hD2 hS2 (Nat.le_of_ble_eq_true rfl) (Nat.le_of_ble_eq_true rfl) (ckD_s (by decide +kernel)) (by decide +kernel) (ckD_s (by decide +kernel)) (ckD_s (by decide +kernel)) (fun b H3 locs3 hP3 hD3 hS3 => ?_)
  refine W.eq (g2 := F0 m 42 ls []) rfl ?_
  refine lv_iconst (v := nI 0) F.1 F.2.1 (n := 0) (ckD_s (by decide +kernel)) nI0 ?_
  refine lv_istore_n (k := 1) F.1 F.2.1 (ckD_s (by decide +kernel)) rfl hl (by decide) rfl (fun ls1 hl1 => ?_)
  refine W.eq (g2 := F0 m 44 ls1 []) rfl ?_
  refine fill_loop (o := o) (a := a) (c0 := 5) (kf := 5) (i0 := 23) (i1 := 21) (i2 := 30) (h := 44) (n := 6) (t0 := 3) (ci := 0) (N := 6) (maxL := 1) (mc := 5) (ms := 64) (C1 := 41) (S1 := 444) (y := yX0_init) (yc := cX0_init) (rm := { frames := 1, cells := 5, slots := 64, locals := 40 }) (P1 := [(o, .inr (5, [.ref q1, .int 0, .ref q2, .int 0, .ref q3, .ref a, .ref b, .int 0, .int 0, .int 0])), (q1, .inl (cs 0, 5, .inl fun _ => 0)), (q2, .inl (cs 0, 4, .inl fun _ => 0)), (q3, .inl (cs 0, 4, .inl fun _ => 0))]) (Y := [(b, .inl (cs 3, 5, .inr (.inr (.inr (.inr (refsOf []))))))]) (off := -21)
    F hE hAA (by decide) (by decide) rfl (by decide +kernel) (wq_at (i := 88) (by decide +kernel)) rfl (fun o sz => mio0) (nw0 (a := 87) (b := 90) (by decide +kernel) (by decide +kernel) ⟨Nat.le_of_ble_eq_true rfl, Nat.le_of_ble_eq_true rfl⟩) rfl (by decide) ?_ (ckD_s (by decide +kernel)) (ckD_s (by decide +kernel)) (ckD_s (by decide +kernel)) (ckD_s (by decide +kernel)) (ckD_s (by decide +kernel)) (ckD_s (by decide +kernel)) (ckD_s (by decide +kernel)) (ckD_s (by decide +kernel)) (ckD_s (by decide +kernel)) (by decide) (Nat.le_of_ble_eq_true rfl) (Nat.le_of_ble_eq_true rfl) ?_ 6 [] _ _ H3 locs3 ls1 rfl (Nat.le_of_ble_eq_true rfl) (Nat.le_of_ble_eq_true rfl) hl1 hP3 hD3 hS3
  · intro i ls H locs cells slots hi hls k1 k2
    refine lv_iload_n F.1 F.2.1 (k := 1) (ckD_s (by decide +kernel)) rfl hls ?_
    refine lv_iconst (v := nI 5) F.1 F.2.1 (n := 5) (ckD_s (by decide +kernel)) (by decide +kernel) ?_
    refine lv_icmp_gt (tgt := 68) F.1 F.2.1 (off := 22) (ckD_s (by decide +kernel)) (by decide) (fun q => ?_) (fun q => ?_)
    · have q := (nI_ltI (by omega) (by omega)).mp q
      exact k2 (by omega)
    · have q : ¬ 5 < i := fun q9 => q (nI_lt q9 (by omega))
      exact k1 (by omega)
  · intro gs ls H4 locs4 hg hl hP4 hD4 hS4
    refine W.eq (g2 := F0 m 68 ls []) rfl ?_
    refine lv_iconst (v := nI 0) F.1 F.2.1 (n := 0) (ckD_s (by decide +kernel)) nI0 ?_
    refine lv_istore_n (k := 1) F.1 F.2.1 (ckD_s (by decide +kernel)) rfl hl (by decide) rfl (fun ls2 hl2 => ?_)
    refine W.eq (g2 := F0 m 70 ls2 []) rfl ?_
    have eN : gs.flatMap (sl cs 0 mZ) ++ ([] : List (Nat → Nat)).flatMap (sl cs 0 mZ) = gs.flatMap (sl cs 0 mZ) := List.append_nil _
    refine fill_loop (o := o) (a := b) (c0 := 5) (kf := 6) (i0 := 27) (i1 := 21) (i2 := 30) (h := 70) (n := 5) (t0 := 3) (ci := 0) (N := 6) (maxL := 1) (mc := 5) (ms := 64) (C1 := 71) (S1 := 794) (y := yX0_init) (yc := cX0_init) (rm := { frames := 1, cells := 5, slots := 64, locals := 40 }) (P1 := [(o, .inr (5, [.ref q1, .int 0, .ref q2, .int 0, .ref q3, .ref a, .ref b, .int 0, .int 0, .int 0])), (q1, .inl (cs 0, 5, .inl fun _ => 0)), (q2, .inl (cs 0, 4, .inl fun _ => 0)), (q3, .inl (cs 0, 4, .inl fun _ => 0)), (a, .inl (cs 3, 6, .inr (.inr (.inr (.inr (refsOf gs))))))]) (Y := gs.flatMap (sl cs 0 mZ)) (off := -21)
      F hE hAA (by decide) (by decide) rfl (by decide +kernel) (wq_at (i := 89) (by decide +kernel)) rfl (fun o sz => mio0) (nw0 (a := 87) (b := 90) (by decide +kernel) (by decide +kernel) ⟨Nat.le_of_ble_eq_true rfl, Nat.le_of_ble_eq_true rfl⟩) rfl (by decide) ?_ (ckD_s (by decide +kernel)) (ckD_s (by decide +kernel)) (ckD_s (by decide +kernel)) (ckD_s (by decide +kernel)) (ckD_s (by decide +kernel)) (ckD_s (by decide +kernel)) (ckD_s (by decide +kernel)) (ckD_s (by decide +kernel)) (ckD_s (by decide +kernel)) (by decide) (Nat.le_of_ble_eq_true rfl) (Nat.le_of_ble_eq_true rfl) ?_ 5 [] _ _ H4 locs4 ls2 rfl (Nat.le_of_ble_eq_true rfl) (Nat.le_of_ble_eq_true rfl) hl2 (by rw [eN]; exact hP4) (by rw [eN]; exact hD4) hS4
    · intro i ls H locs cells slots hi hls k1 k2
      refine lv_iload_n F.1 F.2.1 (k := 1) (ckD_s (by decide +kernel)) rfl hls ?_
      refine lv_iconst (v := nI 4) F.1 F.2.1 (n := 4) (ckD_s (by decide +kernel)) (by decide +kernel) ?_
      refine lv_icmp_gt (tgt := 94) F.1 F.2.1 (off := 22) (ckD_s (by decide +kernel)) (by decide) (fun q => ?_) (fun q => ?_)
      · have q := (nI_ltI (by omega) (by omega)).mp q
        exact k2 (by omega)
      · have q : ¬ 4 < i := fun q9 => q (nI_lt q9 (by omega))
        exact k1 (by omega)
    · intro hs ls H5 locs5 hh hl hP5 hD5 hS5
      refine W.vret F.1 F.2.1 hr (fun t ht _ => ⟨⟨(fun p => [o, q1, 0, q2, 0, q3, a, b].getD p 0, gs, hs), rfl, ⟨rfl, hg, hh⟩, ?_, hD5⟩, hS5.F ht⟩) hS5.2.2 (ckD_s (by decide +kernel)) hlocks
      rw [ht]
      exact hP5
end TUT

