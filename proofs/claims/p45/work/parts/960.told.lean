/-! THE LAW'S told: behind its row of longs it runs as any method. -/
def mS (L : Nat) (xs : Nat → Int32) : Mem_ := fun c n p j => if c = 8 then (if p = 0 then xs j else nI L) else mIz c n p j
theorem wo_mS {lw : Nat} {ad : AD_} {cs : Nat → ClassId} {L : Nat} {xs : Nat → Int32} : wo lw ad cs (mS L xs) = wo lw ad cs mIz := by
  unfold wo
  refine List.map_congr_left fun x hx => ?_
  have hc := cell_lt (show (x.1, x.2.1, x.2.2) ∈ cellsL lw from hx)
  refine congrArg (Prod.mk _) (cel_congr ?_)
  funext j
  unfold mS
  rw [if_neg (by omega)]
theorem zer_mS {L p0 : Nat} {xs : Nat → Int32} : zer (mS L xs) p0 = mS L xs := by
  funext c n p j
  unfold zer
  split
  · rename_i h
    obtain ⟨rfl, rfl, rfl⟩ := h
    rfl
  · rfl
theorem inj_aw {lw : Nat} {ad : AD_} {A : Nat → Prop} (h : Inj_ lw ad A) : Inj_ lw ad (Aw lw ad) := ⟨h.1, fun x hx => ⟨x, hx, rfl⟩⟩
theorem adu_9 {ad : AD_} {p0 q : Nat} : adu ad p0 q 9 = ad 9 := by
  funext n p
  exact adu_ne (by omega)
theorem Ev.adu {D : va_G} {ad : AD_} {cs : Nat → ClassId} {adV : Nat → Nat} {A : Nat → Prop} {s : State} {p0 q : Nat} (h : Ev D ad cs adV A s) : Ev D (adu ad p0 q) cs adV A s := by
  unfold Ev at h ⊢
  rw [adu_9]
  exact h
theorem Scr.adu {ad : AD_} {A : Nat → Prop} {s : State} {O : Mem_} {p0 q : Nat} (h : Scr ad A s O) : Scr (adu ad p0 q) A s O := by
  unfold Scr at h ⊢
  rw [adu_ne (by omega)]
  exact h
abbrev tArgs (ad : AD_) : List Value := [.ref (ad 6 0 0), .ref (ad 8 0 0), .int 0, .ref (ad 7 0 1), .ref (ad 7 0 2), .ref (ad 7 0 3), .ref (ad 7 0 4), .ref (ad 7 0 5)]
def tPc (D : va_G) (cs : Nat → ClassId) (adV : Nat → Nat) (L0 : Nat) (ad : AD_) (O : Mem_) : Array Value → State → Prop := va_Pc (tArgs ad) (fun U => va_P D vwCl (wo 5 ad cs O) U.heap ∧ Inj_ 5 ad (fun q => L0 ≤ q) ∧ L0 ≤ U.heap.size ∧ va_K D vwCl (tyL cs) U ∧ Ev D ad cs adV (fun q => L0 ≤ q) U ∧ Scr ad (fun q => L0 ≤ q) U O)
def tQc (D : va_G) (cs : Nat → ClassId) (L0 : Nat) (ad : AD_) (O1 : Mem_) : Array Value → State → Outcome → State → Prop := va_Qi (S := Unit) (fun v _ => v = 1) (fun _ t => va_P D vwCl (wo 5 ad cs O1) t.heap) (fun q => L0 ≤ q)
theorem tPc_bl {D : va_G} {cs : Nat → ClassId} {adV : Nat → Nat} {L0 : Nat} {ad : AD_} {O : Mem_} : FrameBlind (tPc D cs adV L0 ad O) := fun _ _ _ _ h => ⟨h.1, h.2.1, h.2.2.1, h.2.2.2.1, va_K.moved (Vm.Alike.refl _) h.2.2.2.2.1, Ev.same rfl rfl h.2.2.2.2.2.1, Scr.same rfl rfl h.2.2.2.2.2.2⟩
theorem ckTo : chkT RLw cL_told 16 (some .boolean) (tbs_.getD 129 []) = true := ck_129
theorem wo_less {lw lw' p0 q : Nat} {D : va_G} {ad : AD_} {cs : Nat → ClassId} {O : Mem_} {H : Heap} (hl : lawR lw' = lawR lw ++ [p0]) (h : va_P D vwCl (wo lw' ad cs O) H) : va_P D vwCl (wo lw ad cs O) H := by
  intro k x hx
  refine h k x ?_
  have hc : cellsL lw' = cellsL lw ++ [(7, 0, p0)] := by
    unfold cellsL
    rw [hl, List.map_append, List.append_assoc]
    rfl
  unfold wo at hx ⊢
  rw [hc, List.map_append, List.getElem?_append_left (List.getElem?_eq_some_iff.mp hx).1]
  exact hx
theorem wo_adu {lw p0 q : Nat} {ad : AD_} {cs : Nat → ClassId} {O : Mem_} (hp : p0 ∉ lawR lw) : wo lw (adu ad p0 q) cs O = wo lw ad cs O := by
  unfold wo
  refine List.map_congr_left fun x hx => ?_
  obtain ⟨c, n, p⟩ := x
  rcases cells_at hx with h | ⟨rfl, rfl, h⟩
  · have hc7 : c < 7 := (cells_c _ h).1
    exact congr (congrArg Prod.mk (adu_ne (by omega))) (cel_adu h)
  · have hne : p ≠ p0 := fun e => hp (e ▸ h)
    obtain ⟨h0, ht⟩ := law_aty h
    refine congr (congrArg Prod.mk (adu_ne (fun z => hne z.2.2))) ?_
    rcases ht with ht | ht
    · rw [cel_7 h0 ht, cel_7 h0 ht]
    · rw [cel_7L h0 ht, cel_7L h0 ht]
section TOLD
variable {l : Launch} {D : va_G} {cs : Nat → ClassId} {adV : Nat → Nat} {L0 L : Nat} {ad : AD_} {xs : Nat → Int32} {O1 : Mem_}
theorem d_told : ckD cL_told 0 (.iconst 3) 1 = true ∧ ckD cL_told 1 (.newarray .long) 2 = true ∧ ckD cL_told 3 (.astore 8) 2 = true := by decide +kernel
set_option maxRecDepth 20000 in
set_option maxHeartbeats 2000000 in
theorem mTold (h1 : ex 10 129 5 [some (vr 6 0 0), some (vr 8 0 0), some (vi 0), some (vr 7 0 1), some (vr 7 0 2), some (vr 7 0 3), some (vr 7 0 4), some (vr 7 0 5), some (vr 7 0 6)] [] (mS L xs) = some (1, O1)) :
    Met l yL_told (.code yL_told cL_told 16 (some .boolean) :: wsL_law) { frames := 13, cells := 1, slots := 3, locals := 512 } (tPc D cs adV L0 ad (mS L xs)) (tQc D cs L0 ad O1) 1 3 (fun q => L0 ≤ q) := by
  refine Met.ofW (cc := cL_told) (maxL := 16) (ret := some .boolean) (by decide +kernel) rfl ?_
  intro p e s m args below meth c s₁ B hml hv
  obtain ⟨rfl, hP, hin, hL0, hK, hEv, hsc⟩ := hv
  have hts0 := atoms_spec (ws := .code yL_told cL_told 16 (some .boolean) :: wsL_law) B.pre
  have hts : ∀ w ∈ wsL_law, w.before (tArgs ad).toArray s = true := fun w hw => hts0 w (List.mem_cons_of_mem _ hw)
  have hown : s.vm.findClass RLw = some m.cls := findClass_of_methodNamed B.named
  have F : Fr p s m (tArgs ad).toArray c RLw cL_told 16 := ⟨B.exec, B.bytes, hml, hown, hts⟩
  obtain ⟨d0, d1, d3⟩ := d_told
  have hl := lv_entry (tArgs ad) (n := 16) (Nat.le_of_ble_eq_true rfl)
  rw [lg_entry_eq]
  generalize (lg_sl (tArgs ad) ++ List.replicate (16 - (lg_sl (tArgs ad)).length) Slot.unset).toArray = ls at hl ⊢
  refine lv_iconst (v := nI 3) B.exec B.bytes (n := 3) (ckD_s d0) (by decide +kernel) ?_
  refine nw_rowL (lw := 5) (lw' := 6) (p0 := 6) (rest := []) (A := fun q => L0 ≤ q) rfl B.exec B.bytes rfl (by decide) (by decide) rfl (by decide) (hts _ (wq_at (i := 103) (by decide +kernel))) hK hP hin va_S.rf (fun q hq => Nat.le_trans hL0 hq) (Nat.le_of_ble_eq_true rfl) (Nat.le_of_ble_eq_true rfl) (ckD_s d1) (fun q H1 hP1 hin1 hS1 => ?_)
  rw [zer_mS] at hP1
  refine lv_astore (i := 8) B.exec B.bytes (ckD_s d3) hl (by decide) rfl (fun ls1 hl1 => ?_)
  refine W.eq (g2 := F0 m 5 ls1 []) rfl ?_
  have hEv1 : Ev D (adu ad 6 q) cs adV (fun q => L0 ≤ q) s := hEv.adu
  have hsc1 : Scr (adu ad 6 q) (fun q => L0 ≤ q) s (mS L xs) := hsc.adu
  have hl4 : lv_has ls1 16 (asc (adu ad 6 q) 0 [some (vr 6 0 0), some (vr 8 0 0), some (vi 0), some (vr 7 0 1), some (vr 7 0 2), some (vr 7 0 3), some (vr 7 0 4), some (vr 7 0 5), some (vr 7 0 6)]) := by
    refine lv_mono hl1 fun x hx9 => ?_
    have hx9 : x ∈ [((0 : Nat), Value.ref (adu ad 6 q 6 0 0)), (1, .ref (adu ad 6 q 8 0 0)), (2, .int 0), (3, .ref (adu ad 6 q 7 0 1)), (4, .ref (adu ad 6 q 7 0 2)), (5, .ref (adu ad 6 q 7 0 3)), (6, .ref (adu ad 6 q 7 0 4)), (7, .ref (adu ad 6 q 7 0 5)), (8, .ref (adu ad 6 q 7 0 6))] := hx9
    rw [adu_eq, adu_ne (by omega), adu_ne (by omega), adu_ne (by omega), adu_ne (by omega), adu_ne (by omega), adu_ne (by omega), adu_ne (by omega)] at hx9
    show x ∈ [((8 : Nat), Value.ref q), (0, .ref (ad 6 0 0)), (1, .ref (ad 8 0 0)), (2, .int 0), (3, .ref (ad 7 0 1)), (4, .ref (ad 7 0 2)), (5, .ref (ad 7 0 3)), (6, .ref (ad 7 0 4)), (7, .ref (ad 7 0 5))]
    simp only [List.mem_cons, List.not_mem_nil, or_false] at hx9 ⊢
    rcases hx9 with h | h | h | h | h | h | h | h | h <;> simp [h]
  obtain ⟨n, hn⟩ := (lim_some (fun n m r h hr => rn_le h hr)).mp h1
  refine snd_run (lw := 6) (A := fun q => L0 ≤ q) (O0 := mS L xs) (tb := tbs_.getD 129 []) (ct := cts_.getD 129 []) (own := RLw) (cb := cL_told) (ml := 16) (rt := some .boolean) (res := (1, O1)) (adV := adV) (ad := adu ad 6 q) (D := D) (cs := cs) (f := ex 9) (rm := rmD 9) F hEv1 hin1 hsc1 (met_ex (inj_aw hin1) (jdk_ok (inj_aw hin1)) 9) (jdk_ok (inj_aw hin1) 9) (fun y a O r hy => ex8 9 y 0 (lay a) [] O r hy) ⟨rfl, rfl, Nat.le_of_ble_eq_true rfl, Nat.le_of_ble_eq_true rfl⟩ ⟨Nat.le_of_ble_eq_true rfl, Nat.le_of_ble_eq_true rfl, Nat.le_of_ble_eq_true rfl, Nat.le_of_ble_eq_true rfl⟩ ckTo ?_ ?_ ?_ n 5 [some (vr 6 0 0), some (vr 8 0 0), some (vi 0), some (vr 7 0 1), some (vr 7 0 2), some (vr 7 0 3), some (vr 7 0 4), some (vr 7 0 5), some (vr 7 0 6)] [] (mS L xs) H1 [] ls1 hn rfl ?_ (fun v hv => by cases hv) hP1 hS1 hl4
  · intro pc ls H locs a O' hdg hrt hres hP' hS'
    obtain ⟨rfl, rfl⟩ := Prod.mk.inj hres
    refine W.zret (ty := .boolean) B.exec B.bytes B.returns (by decide +kernel) (fun t ht _ => ⟨⟨1, (), rfl, rfl, ?_⟩, hS'.F ht⟩) hS'.2.2 hdg B.notSynchronized
    show va_P D vwCl (wo 5 ad cs O1) t.heap
    rw [ht, ← wo_adu (p0 := 6) (q := q) (by decide)]
    exact wo_less (lw' := 6) (p0 := 6) (q := q) rfl hP'
  · intro pc ls H locs O' _ h
    cases h
  · intro ls H locs O' _ h
    cases h
  · intro v hv
    simp only [List.mem_cons, List.not_mem_nil, or_false, Option.some.injEq] at hv
    rcases hv with rfl | rfl | rfl | rfl | rfl | rfl | rfl | rfl | rfl
    · exact Or.inl (by decide +kernel)
    · exact Or.inr (Or.inr ⟨rfl, rfl, rfl⟩)
    · exact trivial
    · exact Or.inl (by decide +kernel)
    · exact Or.inl (by decide +kernel)
    · exact Or.inl (by decide +kernel)
    · exact Or.inl (by decide +kernel)
    · exact Or.inl (by decide +kernel)
    · exact Or.inl (by decide +kernel)
end TOLD
