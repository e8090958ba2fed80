/-! CONSTRUCTORS: a field gets a new object, a new row; a row is filled with new objects. -/
theorem get_mid {α : Type} (P : List α) (x : α) (Y : List α) : (P ++ x :: Y)[P.length]? = some x := by
  rw [List.getElem?_append_right (Nat.le_refl _), Nat.sub_self]
  rfl
theorem set_mid {α : Type} : ∀ (P : List α) (x y : α) (Y : List α), (P ++ x :: Y).set P.length y = P ++ y :: Y
  | [], _, _, _ => rfl
  | p :: P, x, y, Y => congrArg (fun l => p :: l) (set_mid P x y Y)
section FILL
variable {p : Program} {l : Launch} {e : Env} {R : Room} {s : State} {m : MethodId} {args : Array Value} {below : List Frame} {meth : Method} {c : Code} {cells slots : Nat} {Q : State → Prop}
variable {D : va_G} {cs : Nat → ClassId} {A : Nat → Prop} {own : String} {cb : ByteArray} {ml pc : Nat} {H : Heap} {locs : List Loc} {ls : Array Slot} {rest : List Value} {ws X : va_W}
theorem put_any {c0 k i o : Nat} {fs : List Value} {ty : FieldType} {v : Value} (F : Fr p s m args c own cb ml) (hK : va_K D vwCl (tyL cs) s) (hc0 : c0 < 7) (hk : k < (rcl c0).2.2) (hw : Cond.fieldLink own i (fdw c0 k).1 (fdw c0 k).2.1 (fdw c0 k).2.2.1 ∈ wsL_law) (hin2 : meth.name = "<init>") (hdecl : (fdw c0 k).1 = own) (hty : parseFieldDescriptor (fdw c0 k).2.2.1 = some ty) (hn : narrow ty v = v) (hfit : fits ty v = true) (hfs : fs.length = (rcl c0).2.2)
    (hP : va_P D vwCl ((o, .inr (c0, fs)) :: X) H) (hD : va_D A ((o, .inr (c0, fs)) :: X)) (hS : va_S A s.heap H locs) (hd : decode cb pc = .ok (.putfield i, 3))
    (kk : ∀ (H1 : Heap) (locs1 : List Loc), va_P D vwCl ((o, .inr (c0, fs.set k v)) :: X) H1 → va_D A ((o, .inr (c0, fs.set k v)) :: X) → va_S A s.heap H1 locs1 → W p l e R s m args below meth c H1 locs1 cells slots Q (F0 m (pc + 3) ls rest)) :
    W p l e R s m args below meth c H locs cells slots Q (F0 m pc ls (v :: .ref o :: rest)) := by
  obtain ⟨hx, hb, hml, hown, hts⟩ := id F
  obtain ⟨ty0, hty0⟩ := rcl_ty hc0
  cases hfin : (fdw c0 k).2.2.2 with
  | true => exact va_putF (T := (rcl c0).2.1) hx hb hts (rcl_in hc0) ty0 hty0 (rcl_nm hc0) hown hK hP hD hS 0 rfl (rcl_mem hc0) k hk (hts _ hw) (fun _ h9 => h9) hfin hin2 hdecl hty hn hfit (by rw [hfs]; exact hk) hd (fun H1 locs1 h1 h2 h3 => kk H1 locs1 h1 h2 h3)
  | false => exact va_put (T := (rcl c0).2.1) hx hb hts (rcl_in hc0) ty0 hty0 (rcl_nm hc0) hown hK hP hD hS 0 rfl (rcl_mem hc0) k hk (hts _ hw) (fun _ h9 => h9) hfin hty hn hfit (by rw [hfs]; exact hk) hd (fun H1 locs1 h1 h2 h3 => kk H1 locs1 h1 h2 h3)
def fpOK (own : String) (c0 k i : Nat) (ty : FieldType) : Prop := c0 < 7 ∧ k < (rcl c0).2.2 ∧ Cond.fieldLink own i (fdw c0 k).1 (fdw c0 k).2.1 (fdw c0 k).2.2.1 ∈ wsL_law ∧ (fdw c0 k).1 = own ∧ parseFieldDescriptor (fdw c0 k).2.2.1 = some ty ∧ ∀ a : Nat, narrow ty (.ref a) = .ref a ∧ fits ty (.ref a) = true
theorem put_obj {S : Type} {adr : S → Nat} {pst : S → Prop} {w : S → va_W} {ci N i1 i2 maxL mc ms c0 k i3 o : Nat} {fs : List Value} {ty : FieldType} {y : MethodName} {yc : ByteArray} {rm : Room} (F : Fr p s m args c own cb ml) (E : Ec D cs s) (hA : ∀ q, s.heap.size ≤ q → A q) (hin2 : meth.name = "<init>") (hlsz : ls.size = ml) (hl0 : ls[0]? = some (.val (.ref o)))
    (hM : ∀ o sz : Nat, Met l y (.code y yc maxL none :: wsL_law) rm (iPc D cs o sz ci) (iQg adr pst w D o sz ci) mc ms (va_A [(o, .inr (ci, dfv ci))] sz)) (nw : nwOK R own ci N i1 i2 maxL y yc rm mc ms) (fp : fpOK own c0 k i3 ty) (hfs : fs.length = (rcl c0).2.2)
    (hP : va_P D vwCl ((o, .inr (c0, fs)) :: X) H) (hD : va_D A ((o, .inr (c0, fs)) :: X)) (hS : va_S A s.heap H locs) (hcells : cells + 1 + mc ≤ R.cells) (hslots : slots + N + ms ≤ R.slots)
    (hd : decode cb pc = .ok (.aload_n 0, 1)) (hd0 : decode cb (pc + 1) = .ok (.new i1, 3)) (hd1 : decode cb (pc + 1 + 3) = .ok (.dup, 1)) (hd2 : decode cb (pc + 1 + 4) = .ok (.invokespecial i2, 3)) (hd3 : decode cb (pc + 1 + 7) = .ok (.putfield i3, 3))
    (kk : ∀ (u : S) (H1 : Heap) (locs1 : List Loc), pst u → va_P D vwCl ((o, .inr (c0, fs.set k (.ref (adr u)))) :: (X ++ w u)) H1 → va_D A ((o, .inr (c0, fs.set k (.ref (adr u)))) :: (X ++ w u)) → va_S A s.heap H1 locs1 → W p l e R s m args below meth c H1 locs1 (cells + 1 + mc) (slots + N + ms) Q (F0 m (pc + 1 + 7 + 3) ls [])) :
    W p l e R s m args below meth c H locs cells slots Q (F0 m pc ls []) := by
  obtain ⟨hc0, hk, hw, hdecl, hty, href⟩ := fp
  refine lv_aload_n F.1 F.2.1 hd rfl hl0 ?_
  refine new_obj (adr := adr) (pst := pst) (w := w) (rest := [.ref o]) F E hA hlsz hM nw hP hD hS hcells hslots hd0 hd1 hd2 (Nat.le_of_ble_eq_true rfl) (fun u H1 locs1 hu hP1 hD1 hS1 => ?_)
  exact put_any F E.1 hc0 hk hw hin2 hdecl hty (href _).1 (href _).2 hfs hP1 hD1 hS1 hd3 (fun H2 locs2 hP2 hD2 hS2 => kk u H2 locs2 hu hP2 hD2 hS2)
theorem put_row {C : String} {L N t0 i1 c0 k i3 o : Nat} {fs : List Value} {ty : FieldType} (F : Fr p s m args c own cb ml) (E : Ec D cs s) (hA : ∀ q, s.heap.size ≤ q → A q) (hin2 : meth.name = "<init>") (hl0 : ls[0]? = some (.val (.ref o)))
    (hcl : Cond.classLink own i1 C ∈ wsL_law) (hAO : va_AO C s) (ht : (tyL cs)[t0]? = some (cs t0, .object C)) (hN : N ≤ 1000) (fp : fpOK own c0 k i3 ty) (hfs : fs.length = (rcl c0).2.2)
    (hP : va_P D vwCl ((o, .inr (c0, fs)) :: X) H) (hD : va_D A ((o, .inr (c0, fs)) :: X)) (hS : va_S A s.heap H locs) (hcells : cells + 1 ≤ R.cells) (hslots : slots + N ≤ R.slots)
    (hd : decode cb pc = .ok (.aload_n 0, 1)) (hp : ckP cb (pc + 1) L N = true) (hd1 : decode cb (pc + 1 + L) = .ok (.anewarray i1, 3)) (hd3 : decode cb (pc + 1 + L + 3) = .ok (.putfield i3, 3))
    (kk : ∀ (q : Nat) (H1 : Heap) (locs1 : List Loc), va_P D vwCl ((o, .inr (c0, fs.set k (.ref q))) :: (X ++ [(q, .inl (cs t0, N, .inr (.inr (.inr (.inr (refsOf []))))))])) H1 → va_D A ((o, .inr (c0, fs.set k (.ref q))) :: (X ++ [(q, .inl (cs t0, N, .inr (.inr (.inr (.inr (refsOf []))))))])) → va_S A s.heap H1 locs1 → W p l e R s m args below meth c H1 locs1 (cells + 1) (slots + N) Q (F0 m (pc + 1 + L + 3 + 3) ls [])) :
    W p l e R s m args below meth c H locs cells slots Q (F0 m pc ls []) := by
  obtain ⟨hc0, hk, hw, hdecl, hty, href⟩ := fp
  refine lv_aload_n F.1 F.2.1 hd rfl hl0 ?_
  refine psh F.1 F.2.1 hp ?_
  refine anew_row (C := C) F E hA hcl hAO ht hN hP hD hS hcells hslots hd1 (fun q H1 hP1 hD1 hS1 => ?_)
  have h0 : (fun _ => none : Nat → Option Nat) = refsOf [] := funext fun j => by simp [refsOf]
  rw [h0] at hP1 hD1
  exact put_any F E.1 hc0 hk hw hin2 hdecl hty (href _).1 (href _).2 hfs hP1 hD1 hS1 hd3 (fun H2 locs2 hP2 hD2 hS2 => kk q H2 locs2 hP2 hD2 hS2)
theorem fill_loop {o a c0 kf i0 i1 i2 h n t0 ci N maxL mc ms C1 S1 : Nat} {fs : List Value} {y : MethodName} {yc : ByteArray} {rm : Room} {P1 Y : va_W} {off : Int} (F : Fr p s m args c own cb ml) (E : Ec D cs s) (hA : ∀ q, s.heap.size ≤ q → A q) (hml1 : 1 < ml)
    (hc0 : c0 < 7) (hP0 : P1[0]? = some (o, .inr (c0, fs))) (hk : kf < (rcl c0).2.2) (hfl : Cond.fieldLink own i0 (fdw c0 kf).1 (fdw c0 kf).2.1 (fdw c0 kf).2.2.1 ∈ wsL_law) (hfv : fs[kf]? = some (.ref a))
    (hM : ∀ o sz : Nat, Met l y (.code y yc maxL none :: wsL_law) rm (iPc D cs o sz ci) (iQc D cs o sz ci mZ) mc ms (va_A [(o, .inr (ci, dfv ci))] sz)) (nw : nwOK R own ci N i1 i2 maxL y yc rm mc ms) (ht : (tyL cs)[t0]? = some (cs t0, .object (rcl ci).1)) (hn : n < 1000)
    (hhead : ∀ (i : Nat) (ls : Array Slot) (H : Heap) (locs : List Loc) (cells slots : Nat), i ≤ n → ls[1]? = some (.val (.int (nI i))) → (i < n → W p l e R s m args below meth c H locs cells slots Q (F0 m (h + 5) ls [])) → (i = n → W p l e R s m args below meth c H locs cells slots Q (F0 m (h + 24) ls [])) → W p l e R s m args below meth c H locs cells slots Q (F0 m h ls []))
    (d5 : decode cb (h + 5) = .ok (.aload_n 0, 1)) (d6 : decode cb (h + 5 + 1) = .ok (.getfield i0, 3)) (d9 : decode cb (h + 5 + 1 + 3) = .ok (.iload_n 1, 1)) (d10 : decode cb (h + 5 + 1 + 3 + 1) = .ok (.new i1, 3)) (d13 : decode cb (h + 5 + 1 + 3 + 1 + 3) = .ok (.dup, 1)) (d14 : decode cb (h + 5 + 1 + 3 + 1 + 4) = .ok (.invokespecial i2, 3)) (d17 : decode cb (h + 5 + 1 + 3 + 1 + 7) = .ok (.aastore, 1)) (d18 : decode cb (h + 5 + 1 + 3 + 1 + 7 + 1) = .ok (.iinc 1 1, 3)) (d21 : decode cb (h + 5 + 1 + 3 + 1 + 7 + 1 + 3) = .ok (.goto off, 3)) (hoff : ((h + 5 + 1 + 3 + 1 + 7 + 1 + 3 : Nat) : Int) + off = (h : Int))
    (hC : C1 ≤ R.cells) (hS1 : S1 ≤ R.slots)
    (kk : ∀ (gs : List (Nat → Nat)) (ls : Array Slot) (H1 : Heap) (locs1 : List Loc), gs.length = n → lv_has ls ml [(1, .int (nI n)), (0, .ref o)] → va_P D vwCl (P1 ++ (a, .inl (cs t0, n, .inr (.inr (.inr (.inr (refsOf gs)))))) :: (Y ++ gs.flatMap (sl cs ci mZ))) H1 → va_D A (P1 ++ (a, .inl (cs t0, n, .inr (.inr (.inr (.inr (refsOf gs)))))) :: (Y ++ gs.flatMap (sl cs ci mZ))) → va_S A s.heap H1 locs1 → W p l e R s m args below meth c H1 locs1 C1 S1 Q (F0 m (h + 24) ls [])) :
    ∀ (d : Nat) (gs : List (Nat → Nat)) (cells slots : Nat) (H : Heap) (locs : List Loc) (ls : Array Slot), gs.length + d = n → cells + d * (1 + mc) ≤ C1 → slots + d * (N + ms) ≤ S1 → lv_has ls ml [(1, .int (nI gs.length)), (0, .ref o)] → va_P D vwCl (P1 ++ (a, .inl (cs t0, n, .inr (.inr (.inr (.inr (refsOf gs)))))) :: (Y ++ gs.flatMap (sl cs ci mZ))) H → va_D A (P1 ++ (a, .inl (cs t0, n, .inr (.inr (.inr (.inr (refsOf gs)))))) :: (Y ++ gs.flatMap (sl cs ci mZ))) → va_S A s.heap H locs → W p l e R s m args below meth c H locs cells slots Q (F0 m h ls []) := by
  obtain ⟨hx, hb, hml, hown, hts⟩ := id F
  intro d
  induction d with
  | zero =>
    intro gs cells slots H locs ls hg hcc hss hl hP hD hS
    have hg : gs.length = n := hg
    refine hhead gs.length ls H locs cells slots (Nat.le_of_eq hg) (lv_at hl 0 rfl) (fun q => absurd q (by omega)) (fun _ => W.widen (by omega) (by omega) (kk gs ls H locs hg (by rw [← hg]; exact hl) hP hD hS))
  | succ d ih =>
    intro gs cells slots H locs ls hg hcc hss hl hP hD hS
    rw [Nat.add_mul, Nat.one_mul] at hcc hss
    refine hhead gs.length ls H locs cells slots (by omega) (lv_at hl 0 rfl) (fun _ => ?_) (fun q => absurd q (by omega))
    have hP00 : (P1 ++ (a, .inl (cs t0, n, .inr (.inr (.inr (.inr (refsOf gs)))))) :: (Y ++ gs.flatMap (sl cs ci mZ)))[0]? = some (o, .inr (c0, fs)) := by
      rw [List.getElem?_append_left (List.getElem?_eq_some_iff.mp hP0).1]; exact hP0
    refine lv_aload_n hx hb d5 rfl (lv_at hl 1 rfl) ?_
    refine va_get (rest := []) (T := (rcl c0).2.1) hx hb hts (rcl_in hc0) hown E.1 hP 0 hP00 (rcl_mem hc0) kf hk (hts _ hfl) (fun _ h9 => h9) hfv d6 ?_
    refine lv_iload_n hx hb d9 rfl (lv_at hl 0 rfl) ?_
    refine new_obj (adr := fun f : Nat → Nat => f 0) (pst := fun _ => True) (w := fun f => sl cs ci mZ f) (rest := [.int (nI gs.length), .ref a]) F E hA hl.1 hM nw hP hD hS (by omega) (by omega) d10 d13 d14 (Nat.le_of_ble_eq_true rfl) (fun f H1 locs1 _ hP1 hD1 hS1 => ?_)
    have e1 : (P1 ++ (a, .inl (cs t0, n, .inr (.inr (.inr (.inr (refsOf gs)))))) :: (Y ++ gs.flatMap (sl cs ci mZ))) ++ sl cs ci mZ f = P1 ++ ((a, .inl (cs t0, n, .inr (.inr (.inr (.inr (refsOf gs)))))) : Nat × va_E) :: (Y ++ (gs ++ [f]).flatMap (sl cs ci mZ)) := by
      rw [List.flatMap_append, List.append_assoc, List.cons_append, List.append_assoc]
      simp
    have hv : (P1 ++ ((a, .inl (cs t0, n, .inr (.inr (.inr (.inr (refsOf gs)))))) : Nat × va_E) :: (Y ++ (gs ++ [f]).flatMap (sl cs ci mZ)))[(P1 ++ ((a, .inl (cs t0, n, .inr (.inr (.inr (.inr (refsOf gs)))))) : Nat × va_E) :: (Y ++ gs.flatMap (sl cs ci mZ))).length]? = some (f 0, .inr (ci, fls (fun _ _ p => f p) mZ ci 0)) := by
      rw [← e1, List.getElem?_append_right (Nat.le_refl _), Nat.sub_self]
      rfl
    rw [e1] at hP1 hD1
    have hgc : (nI gs.length).toNatClampNeg = gs.length := nI_clamp (by omega)
    refine va_astq (rest := []) hx hb E.1 hP1 hD1 hS1 P1.length t0 _ ci (get_mid _ _ _) ht hv (rcl_mem nw.1) (vp_in_nI (by omega) (by omega)) d17 (fun H2 locs2 hP2 hD2 hS2 => ?_)
    rw [set_mid, hgc, refs_app] at hP2 hD2
    refine lv_iinc (k := 0) (v := nI (gs.length + 1)) hx hb d18 hl rfl (by rw [show Int32.ofInt 1 = (1 : Int32) from rfl]; exact nI_1 _) hml1 rfl (fun ls2 hl2 => ?_)
    refine lv_goto (tgt := h) hx hb d21 hoff ?_
    refine ih (gs ++ [f]) (cells + 1 + mc) (slots + N + ms) H2 locs2 ls2 (by rw [List.length_append]; show gs.length + 1 + d = n; omega) (by omega) (by omega) ?_ hP2 hD2 hS2
    rw [List.length_append]
    exact hl2
end FILL
