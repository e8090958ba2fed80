/-! CONSTRUCTORS: Sheets. -/
def szF (i : Nat) : Nat → Int32 := fun j => if j < i then -4 else 0
theorem szF_s (i : Nat) : upd (szF i) i (-4) = szF (i + 1) := by
  funext j
  unfold upd szF
  by_cases h : j = i
  · subst h
    simp
  · by_cases h2 : j < i
    · simp [h, h2, Nat.lt_succ_of_lt h2]
    · simp [h, h2, show ¬ j < i + 1 by omega]
def w2 (cs : Nat → ClassId) (f : Nat → Nat) : va_W := [(f 0, .inr (2, [.ref (f 1), .ref (f 2), .ref (f 3)])), (f 1, .inl (cs 0, 4, .inl (szF 4))), (f 2, .inl (cs 0, 4, .inl fun _ => 0)), (f 3, .inl (cs 4, 4, .inr (.inr (.inr (.inr fun i => if i < 4 then some (f (4 + i)) else none))))), (f 4, .inl (cs 0, 40, .inl fun _ => 0)), (f 5, .inl (cs 0, 40, .inl fun _ => 0)), (f 6, .inl (cs 0, 40, .inl fun _ => 0)), (f 7, .inl (cs 0, 40, .inl fun _ => 0))]
theorem vr_const {l : List Nat} {v : va_E} : vr_up (fun _ => v) l v = fun _ => v := by
  funext a
  unfold vr_up
  split <;> rfl
section SHE
variable {l : Launch} {D : va_G} {cs : Nat → ClassId} {o sz : Nat}
set_option maxRecDepth 20000 in
set_option maxHeartbeats 2000000 in
theorem mi2 : Met l yX2_init (.code yX2_init cX2_init 2 none :: wsL_law) { frames := 1, cells := 7, slots := 172, locals := 40 } (iPc D cs o sz 2) (iQg (fun f : Nat → Nat => f 0) (fun _ => True) (w2 cs) D o sz 2) 7 172 (va_A [(o, .inr (2, dfv 2))] sz) := by
  refine mi_start (i := 3) (w := 94) (by decide +kernel) rfl (by decide) ⟨by decide, by decide⟩ (by decide +kernel) (by decide +kernel) (by decide +kernel) ?_
  intro p e s m below meth c ls F hin hr hlocks hP ho hsz hE hl
  subst hsz
  obtain ⟨hx, hb, hml, hown, hts⟩ := id F
  have hAA : ∀ q, s.heap.size ≤ q → va_A [(o, .inr (2, dfv 2))] s.heap.size q := fun q hq => Or.inr hq
  have hl0 : ls[0]? = some (.val (.ref o)) := lv_at hl 0 rfl
  refine bks_run (A := va_A [(o, .inr (2, dfv 2))] s.heap.size) (arrs := []) F hE.1 (by decide) hin hAA hl0 bk2 4 (dfv 2) 0 0 s.heap [] (by decide +kernel) (by decide +kernel) hP (D1 (Or.inl ⟨0, _, rfl⟩)) va_S.rf (Nat.le_of_ble_eq_true rfl) (Nat.le_of_ble_eq_true rfl) (fun qs H1 locs1 hq hP1 hD1 hS1 => ?_)
  obtain ⟨q1, q2, rfl⟩ : ∃ a b, qs = [a, b] := by
    match qs, hq with
    | [a, b], _ => exact ⟨a, b, rfl⟩
  refine W.eq (g2 := F0 m 18 ls []) rfl ?_
  refine lv_aload_n (k := 0) hx hb (ckD_s (by decide +kernel)) rfl hl0 ?_
  refine lv_iconst (v := nI 4) hx hb (n := 4) (ckD_s (by decide +kernel)) (by decide +kernel) ?_
  refine lv_bipush (v := nI 40) hx hb (n := 40) (ckD_s (by decide +kernel)) (by decide +kernel) ?_
  refine W.eq (g2 := F0 m 22 ls [.int (nI 40), .int (nI 4), .ref o]) rfl ?_
  have h00 : s.vm.findClass (FieldType.array .int).toString = some (cs 0) := (hE.1.2 0 (cs 0, .int) rfl).2
  refine va_mna (X := [(o, .inr (2, [.ref q1, .ref q2, .null])), (q1, .inl (cs 0, 4, .inl fun _ => 0)), (q2, .inl (cs 0, 4, .inl fun _ => 0))]) (L := []) (f := fun _ => .inl (cs 0, 40, .inl fun _ => 0)) (ty := .int) (N' := 4) (K' := 40) (z := (40, .inl fun _ => 0)) (index := 18) (own := RX2) hx hb hown (hts _ (wq_at (i := 97) (by decide +kernel))) hE.2.2.2 (hts _ (wq_at (i := 3) (by decide +kernel))) h00 hE.1 hP1 hD1 hS1 hAA (by decide +kernel) (by decide +kernel) (by decide +kernel) (by decide +kernel) (Nat.le_of_ble_eq_true rfl) (Nat.le_of_ble_eq_true rfl) (Nat.le_of_ble_eq_true rfl) rfl rfl (Nat.le_of_ble_eq_true rfl) (Nat.le_of_ble_eq_true rfl) (fun c9 => ?_) (ckD_s (by decide +kernel)) (fun q r cA H2 hri hrl hK2 hP2 hD2 hS2 => ?_)
  · show ({ cls := c9, slots := Array.replicate 40 (.int 0), vm := .none } : Cell) = _
    rw [arrV_new]
    rfl
  have h4 : s.vm.findClass ("[" ++ (FieldType.array .int).toString) = some cA := (hK2.2 6 (cA, .array .int) rfl).2
  have h4' : s.vm.findClass ("[" ++ (FieldType.array .int).toString) = some (cs 4) := (hE.1.2 4 (cs 4, .array .int) rfl).2
  obtain rfl : cA = cs 4 := Option.some.inj (h4.symm.trans h4')
  rw [vr_const] at hP2 hD2
  refine W.eq (g2 := F0 m 26 ls [.ref q, .ref o]) rfl ?_
  refine put_any (c0 := 2) (k := 2) (i := 20) (o := o) (fs := [.ref q1, .ref q2, .null]) (ty := .array (.array .int)) (v := .ref q) (X := [(q1, .inl (cs 0, 4, .inl fun _ => 0)), (q2, .inl (cs 0, 4, .inl fun _ => 0)), (q, .inl (cs 4, 4, .inr (.inr (.inr (.inr fun i => if i < 4 then some (r i) else none))))), (r 0, .inl (cs 0, 40, .inl fun _ => 0)), (r 1, .inl (cs 0, 40, .inl fun _ => 0)), (r 2, .inl (cs 0, 40, .inl fun _ => 0)), (r 3, .inl (cs 0, 40, .inl fun _ => 0))]) F hE.1 (by decide) (by decide +kernel) (wq_at (i := 98) (by decide +kernel)) hin rfl (by decide +kernel) rfl rfl rfl hP2 hD2 hS2 (ckD_s (by decide +kernel)) (fun H3 locs3 hP3 hD3 hS3 => ?_)
  refine W.eq (g2 := F0 m 29 ls []) rfl ?_
  refine lv_iconst (v := nI 0) hx hb (n := 0) (ckD_s (by decide +kernel)) nI0 ?_
  refine lv_istore_n (k := 1) hx hb (ckD_s (by decide +kernel)) rfl hl (by decide) rfl (fun ls1 hl1 => ?_)
  refine W.eq (g2 := F0 m 31 ls1 []) rfl ?_
  have loop : ∀ (d i : Nat) (ls : Array Slot) (H : Heap) (locs : List Loc), i + d = 4 → lv_has ls 2 [(1, .int (nI i)), (0, .ref o)] →
      va_P D vwCl [(o, .inr (2, [.ref q1, .ref q2, .ref q])), (q1, .inl (cs 0, 4, .inl (szF i))), (q2, .inl (cs 0, 4, .inl fun _ => 0)), (q, .inl (cs 4, 4, .inr (.inr (.inr (.inr fun i => if i < 4 then some (r i) else none))))), (r 0, .inl (cs 0, 40, .inl fun _ => 0)), (r 1, .inl (cs 0, 40, .inl fun _ => 0)), (r 2, .inl (cs 0, 40, .inl fun _ => 0)), (r 3, .inl (cs 0, 40, .inl fun _ => 0))] H →
      va_D (va_A [(o, .inr (2, dfv 2))] s.heap.size) [(o, .inr (2, [.ref q1, .ref q2, .ref q])), (q1, .inl (cs 0, 4, .inl (szF i))), (q2, .inl (cs 0, 4, .inl fun _ => 0)), (q, .inl (cs 4, 4, .inr (.inr (.inr (.inr fun i => if i < 4 then some (r i) else none))))), (r 0, .inl (cs 0, 40, .inl fun _ => 0)), (r 1, .inl (cs 0, 40, .inl fun _ => 0)), (r 2, .inl (cs 0, 40, .inl fun _ => 0)), (r 3, .inl (cs 0, 40, .inl fun _ => 0))] →
      va_S (va_A [(o, .inr (2, dfv 2))] s.heap.size) s.heap H locs → W p l e { frames := 1, cells := 7, slots := 172, locals := 40 } s m #[Value.ref o] below meth c H locs 7 172 (MQ below (iQg (fun f : Nat → Nat => f 0) (fun _ => True) (w2 cs) D o s.heap.size 2) #[Value.ref o] s 7 172 (va_A [(o, .inr (2, dfv 2))] s.heap.size)) (F0 m 31 ls []) := by
    intro d
    induction d with
    | zero =>
      intro i ls H locs hi hl hP hD hS
      obtain rfl : i = 4 := hi
      refine lv_iload_n (k := 1) hx hb (ckD_s (by decide +kernel)) rfl (lv_at hl 0 rfl) ?_
      refine lv_iconst (v := nI 4) hx hb (n := 4) (ckD_s (by decide +kernel)) (by decide +kernel) ?_
      refine lv_icmp_ge (tgt := 50) hx hb (off := 17) (ckD_s (by decide +kernel)) (by decide) (fun _ => ?_) (fun q => absurd (Int32.le_refl _) q)
      refine W.vret hx hb hr (fun t ht _ => ⟨⟨fun p => match p with | 0 => o | 1 => q1 | 2 => q2 | 3 => q | p + 4 => r p, rfl, ⟨rfl, trivial⟩, ?_, ?_⟩, hS.F ht⟩) hS.2.2 (ckD_s (by decide +kernel)) hlocks
      · rw [ht]
        have e : (fun i => if i < 4 then some ((fun p => match p with | 0 => o | 1 => q1 | 2 => q2 | 3 => q | p + 4 => r p : Nat → Nat) (4 + i)) else none) = (fun i => if i < 4 then some (r i) else none) := by
          funext i
          rw [Nat.add_comm]
        unfold w2
        rw [e]
        exact hP
      · have e : (fun i => if i < 4 then some ((fun p => match p with | 0 => o | 1 => q1 | 2 => q2 | 3 => q | p + 4 => r p : Nat → Nat) (4 + i)) else none) = (fun i => if i < 4 then some (r i) else none) := by
          funext i
          rw [Nat.add_comm]
        unfold w2
        rw [e]
        exact hD
    | succ d ih =>
      intro i ls H locs hi hl hP hD hS
      refine lv_iload_n (k := 1) hx hb (ckD_s (by decide +kernel)) rfl (lv_at hl 0 rfl) ?_
      refine lv_iconst (v := nI 4) hx hb (n := 4) (ckD_s (by decide +kernel)) (by decide +kernel) ?_
      refine lv_icmp_ge (tgt := 50) hx hb (off := 17) (ckD_s (by decide +kernel)) (by decide) (fun q => absurd q (nI_ge (by omega) (by omega))) (fun _ => ?_)
      refine lv_aload_n (k := 0) hx hb (ckD_s (by decide +kernel)) rfl (lv_at hl 1 rfl) ?_
      refine va_get (rest := []) (T := (rcl 2).2.1) (index := 9) hx hb hts (rcl_in (c := 2) (by decide)) hown hE.1 hP 0 rfl (rcl_mem (c := 2) (by decide)) 0 (by decide +kernel) (hts _ (wq_at (i := 95) (by decide +kernel))) (fun _ h9 => h9) rfl (ckD_s (by decide +kernel)) ?_
      refine lv_iload_n (k := 1) hx hb (ckD_s (by decide +kernel)) rfl (lv_at hl 0 rfl) ?_
      refine lv_bipush (v := -4) hx hb (n := -4) (ckD_s (by decide +kernel)) (by decide +kernel) ?_
      refine va_iast (rest := []) hx hb hE.1 hP hD hS 1 0 rfl rfl (vp_in_nI (by omega) (by omega)) (ckD_s (by decide +kernel)) (fun H1 locs1 hP1 hD1 hS1 => ?_)
      rw [nI_clamp (by omega), szF_s] at hP1 hD1
      refine lv_iinc (k := 0) (v := nI (i + 1)) hx hb (n := 1) (ckD_s (by decide +kernel)) hl rfl (by rw [show Int32.ofInt 1 = (1 : Int32) from rfl]; exact nI_1 _) (by decide) rfl (fun ls2 hl2 => ?_)
      refine lv_goto (tgt := 31) (off := -16) hx hb (ckD_s (by decide +kernel)) (by decide) ?_
      exact ih (i + 1) ls2 H1 locs1 (by omega) hl2 hP1 hD1 hS1
  have e0 : (fun _ => 0 : Nat → Int32) = szF 0 := by
    funext j
    simp [szF]
  refine loop 4 0 ls1 H3 locs3 rfl hl1 ?_ ?_ hS3
  · rw [← e0]; exact hP3
  · rw [← e0]; exact hD3
end SHE
