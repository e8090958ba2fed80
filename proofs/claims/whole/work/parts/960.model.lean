/-! CONSTRUCTORS: FirstWordsModel; behind its rows it runs as any method. -/
def tIni : List (List (Nat × E_)) := [[],
  [],
  [],
  [],
  [],
  [],
  [(208, (.iconst 0, 1, 0, 0, 0, 0, 0)), (209, (.istore_n 1, 1, 1, 0, 0, 0, 0)), (210, (.iload_n 1, 1, 1, 0, 0, 0, 0)), (211, (.iconst 4, 1, 0, 0, 0, 4, 0)), (212, (.if_icmp .ge 17, 3, 229, 0, 0, 0, 0)), (215, (.aload_n 0, 1, 0, 0, 0, 0, 0)), (216, (.getfield 80, 3, 7, 41, 1, 130, 0)), (219, (.iload_n 1, 1, 1, 0, 0, 0, 0)), (220, (.bipush (-4), 2, 0, 0, 0, (-4), 0)), (222, (.iastore, 1, 0, 0, 0, 0, 0)), (223, (.iinc 1 1, 3, 1, 0, 0, 1, 0))],
  [(226, (.goto (-16), 3, 210, 0, 0, 0, 0)), (229, (.aload_n 0, 1, 0, 0, 0, 0, 0)), (230, (.invokevirtual 89, 3, 124, 7185, 0, 133, 0)), (233, (.aload_n 0, 1, 0, 0, 0, 0, 0)), (234, (.invokevirtual 92, 3, 125, 7217, 0, 141, 0)), (237, (.return_, 1, 0, 0, 0, 0, 0))]]
theorem ckI : chkT RX7 cX7_init 2 none tIni = true := by decide +kernel
def mS (L : Nat) (xs : Nat → Int32) : Mem_ := fun c n p j => if c = 8 then (if p = 0 then xs j else nI L) else mIz c n p j
theorem wo_mS {ad : AD_} {cs : Nat → ClassId} {L : Nat} {xs : Nat → Int32} : wo ad cs (mS L xs) = wo ad cs mIz := by
  unfold wo
  refine List.map_congr_left fun x hx => ?_
  have hc := cell_lt (show (x.1, x.2.1, x.2.2) ∈ cellsL from hx)
  refine congrArg (Prod.mk _) (cel_congr ?_)
  funext j
  unfold mS
  rw [if_neg (by omega)]
def m7Pc (D : va_G) (cs : Nat → ClassId) (st adV : Nat → Nat) (L0 o : Nat) (u : S6_) : Array Value → State → Prop := va_Pc [.ref o] (fun U => va_P D vwCl ((o, .inr (7, dfv 7)) :: w6 cs u) U.heap ∧ va_D (fun q => L0 ≤ q) ((o, .inr (7, dfv 7)) :: w6 cs u) ∧ L0 ≤ U.heap.size ∧ Ec D cs U ∧ Ev D (fun _ i _ => st i) cs adV (fun q => L0 ≤ q) U)
def m7Qc (D : va_G) (cs : Nat → ClassId) (st : Nat → Nat) (L0 o b : Nat) (u : S6_) (O1 : Mem_) : Array Value → State → Outcome → State → Prop := va_Qv (S := Nat → Nat) (fun f7 => f7 0 = o ∧ Inj_ (adr u f7 st b) (fun q => L0 ≤ q)) (fun f7 t => va_P D vwCl (wo (adr u f7 st b) cs O1) t.heap) (fun q => L0 ≤ q)
theorem m7Pc_bl {D : va_G} {cs : Nat → ClassId} {st adV : Nat → Nat} {L0 o : Nat} {u : S6_} : FrameBlind (m7Pc D cs st adV L0 o u) := fun _ _ _ _ h => ⟨h.1, h.2.1, h.2.2.1, h.2.2.2.1, Ec.moved (Vm.Alike.refl _) h.2.2.2.2.1, Ev.same rfl rfl h.2.2.2.2.2⟩
theorem inj_aw {ad : AD_} {A : Nat → Prop} (h : Inj_ ad A) : Inj_ ad (Aw ad) := ⟨h.1, fun x hx => ⟨x, hx, rfl⟩⟩
section MI7
variable {l : Launch} {D : va_G} {cs : Nat → ClassId} {st adV : Nat → Nat} {L0 o b L n0 : Nat} {u : S6_} {xs : Nat → Int32} {O1 : Mem_}
set_option maxRecDepth 20000 in
set_option maxHeartbeats 2000000 in
theorem mi7 (hu : pst6 u) (hini : rn_ swT_ (cl_ (ex 20)) tIni [] n0 208 [some (vr 7 0 0), none] [] (mS L xs) = some (0, O1)) :
    Met l yX7_init (.code yX7_init cX7_init 2 none :: wsL_law) { frames := 30, cells := 26, slots := 1231, locals := 1100 } (m7Pc D cs st adV L0 o u) (m7Qc D cs st L0 o b u O1) 26 1231 (fun q => L0 ≤ q) := by
  refine Met.ofW (cc := cX7_init) (maxL := 2) (ret := none) (by decide +kernel) rfl ?_
  intro p e s m args below meth c s₁ B hml hv
  obtain ⟨rfl, hP, hD, hL0, hE, hEv⟩ := hv
  have hts0 := atoms_spec (ws := .code yX7_init cX7_init 2 none :: wsL_law) B.pre
  have hts : ∀ w ∈ wsL_law, w.before #[Value.ref o] s = true := fun w hw => hts0 w (List.mem_cons_of_mem _ hw)
  have hown : s.vm.findClass RX7 = some m.cls := findClass_of_methodNamed B.named
  have hin : meth.name = "<init>" := (name_of_methodNamed B.named B.method).1
  have F : Fr p s m #[Value.ref o] c RX7 cX7_init 2 := ⟨B.exec, B.bytes, hml, hown, hts⟩
  obtain ⟨-, -, w11, w12⟩ := wds_n
  have hl := lv_entry [Value.ref o] (n := 2) (Nat.le_of_ble_eq_true rfl)
  rw [lg_entry_eq]
  generalize (lg_sl [Value.ref o] ++ List.replicate (2 - (lg_sl [Value.ref o]).length) Slot.unset).toArray = ls at hl ⊢
  have hl0 : ls[0]? = some (.val (.ref o)) := lv_at hl 0 rfl
  refine lv_aload_n (k := 0) B.exec B.bytes (ckD_s (by decide +kernel)) rfl hl0 ?_
  refine W.objInit (idx := 1) B.exec B.bytes hown (hts _ (wq_at (i := 106) (by decide +kernel))) (hts _ (wq_at w11)) (hts _ (wq_at w12)) rfl (by rw [hml]; exact hl.1) rfl (show decode cX7_init 1 = .ok (.invokespecial 1, 3) from ckD_s (by decide +kernel)) (Nat.le_of_ble_eq_true rfl) (Nat.le_of_ble_eq_true rfl) ?_
  refine W.eq (g2 := F0 m 4 ls []) rfl ?_
  refine bks_run (A := fun q => L0 ≤ q) (arrs := w6 cs u) F hE.1 (by decide) hin (fun q hq => Nat.le_trans hL0 hq) hl0 bk7 4 (dfv 7) 0 0 s.heap [] (by decide +kernel) (by decide +kernel) hP hD va_S.rf (Nat.le_of_ble_eq_true rfl) (Nat.le_of_ble_eq_true rfl) (fun qs H1 locs1 hq hP1 hD1 hS1 => ?_)
  obtain ⟨f7, hf7, hP2, htag⟩ := wo_of (b := b) (st := st) hu hq hP1
  have hin7 := inj_of hD1 htag
  show W p l e { frames := 30, cells := 26, slots := 1231, locals := 1100 } s m #[Value.ref o] below meth c H1 locs1 26 1231 _ (F0 m 208 ls [])
  have hl7 : lv_has ls 2 (asc (adr u f7 st b) 0 [some (vr 7 0 0), none]) := by
    have h : lv_has ls 2 [(0, .ref (f7 0))] := by rw [hf7]; exact hl
    exact h
  refine snd_run (lw := false) (A := fun q => L0 ≤ q) (O0 := mS L xs) (tb := tIni) (ct := []) (own := RX7) (cb := cX7_init) (ml := 2) (rt := none) (res := (0, O1)) (adV := adV) (ad := adr u f7 st b) (D := D) (cs := cs) (f := ex 20) (rm := rmD 20) F hEv hin7 (fun q => by cases q) (met_ex (inj_aw hin7) (jdk_ok (inj_aw hin7)) 20) (jdk_ok (inj_aw hin7) 20) (fun y a O r hy => ex8 20 y 0 (lay a) [] O r hy) ⟨rfl, rfl, Nat.le_of_ble_eq_true rfl, Nat.le_of_ble_eq_true rfl⟩ ⟨Nat.le_of_ble_eq_true rfl, Nat.le_of_ble_eq_true rfl, Nat.le_of_ble_eq_true rfl, Nat.le_of_ble_eq_true rfl⟩ ckI ?_ ?_ n0 208 [some (vr 7 0 0), none] [] (mS L xs) H1 locs1 ls hini rfl ?_ (fun v hv => by cases hv) (by rw [wo_mS]; exact hP2) hS1 hl7
  · intro pc ls H locs a O' _ hrt
    rcases hrt with h | ⟨h, -⟩ <;> cases h
  · intro pc ls H locs O' hdg _ hres hP' hS'
    obtain rfl : O1 = O' := (Prod.mk.inj hres).2
    refine W.vret B.exec B.bytes B.returns (fun t ht _ => ⟨⟨f7, rfl, ⟨hf7, hin7⟩, ?_⟩, hS'.F ht⟩) hS'.2.2 hdg B.notSynchronized
    show va_P D vwCl (wo (adr u f7 st b) cs O1) t.heap
    rw [ht]
    exact hP'
  · intro v hv
    simp only [List.mem_cons, List.not_mem_nil, or_false, Option.some.injEq, reduceCtorEq] at hv
    subst hv
    exact Or.inl (by decide +kernel)
end MI7
