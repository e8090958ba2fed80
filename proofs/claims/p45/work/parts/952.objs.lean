/-! CONSTRUCTORS: new objects, rows of objects. -/
theorem vaA1 {q x sz : Nat} {e : va_E} (h : va_A [(q, e)] sz x) : x = q ∨ sz ≤ x := by
  rcases h with ⟨k, e', h⟩ | h
  · cases k with
    | zero => cases h; exact Or.inl rfl
    | succ k => simp at h
  · exact Or.inr h
theorem join1 {D : va_G} {A : Nat → Prop} {ws w1 : va_W} {H H1 : Heap} {q : Nat} {e0 : va_E} (hP : va_P D vwCl (ws ++ [(q, e0)]) H) (hD : va_D A (ws ++ [(q, e0)])) (hk : ∀ x, x < H.size → ¬ va_A [(q, e0)] H.size x → H1[x]? = H[x]?) (hA : ∀ x, H.size ≤ x → A x) (hP1 : va_P D vwCl w1 H1) (hD1 : va_D (va_A [(q, e0)] H.size) w1) : va_P D vwCl (ws ++ w1) H1 ∧ va_D A (ws ++ w1) := by
  have hin : ∀ (k : Nat) (x : Nat × va_E), ws[k]? = some x → (ws ++ [(q, e0)])[k]? = some x := fun k x hx => by
    rw [List.getElem?_append_left (List.getElem?_eq_some_iff.mp hx).1]; exact hx
  have hlast : (ws ++ [(q, e0)])[ws.length]? = some (q, e0) := by rw [List.getElem?_append_right (Nat.le_refl _), Nat.sub_self]; rfl
  have hws : ∀ (k : Nat) (x : Nat × va_E), ws[k]? = some x → x.1 < H.size ∧ x.1 ≠ q := fun k x hx => by
    refine ⟨(hP k x (hin k x hx)).lt, fun he => ?_⟩
    have := hD.1 k ws.length x (q, e0) (hin k x hx) hlast he
    have := (List.getElem?_eq_some_iff.mp hx).1
    omega
  have hnA : ∀ (k : Nat) (x : Nat × va_E), ws[k]? = some x → ¬ va_A [(q, e0)] H.size x.1 := fun k x hx h => by
    have h1 := hws k x hx
    rcases vaA1 h with h2 | h2
    · exact h1.2 h2
    · omega
  refine ⟨va_P.app (fun k x hx => (hP k x (hin k x hx)).kept (hk _ (hws k x hx).1 (hnA k x hx))) hP1, fun i j x y hi hj he => ?_, fun k x hx => ?_⟩
  · by_cases h1 : i < ws.length <;> by_cases h2 : j < ws.length
    · rw [List.getElem?_append_left h1] at hi
      rw [List.getElem?_append_left h2] at hj
      exact hD.1 i j x y (hin _ _ hi) (hin _ _ hj) he
    · rw [List.getElem?_append_left h1] at hi
      rw [List.getElem?_append_right (by omega)] at hj
      exact absurd (he ▸ hD1.2 _ _ hj) (hnA _ _ hi)
    · rw [List.getElem?_append_right (by omega)] at hi
      rw [List.getElem?_append_left h2] at hj
      exact absurd (he ▸ hD1.2 _ _ hi) (hnA _ _ hj)
    · rw [List.getElem?_append_right (by omega)] at hi hj
      have := hD1.1 _ _ _ _ hi hj he
      omega
  · by_cases h1 : k < ws.length
    · rw [List.getElem?_append_left h1] at hx
      exact hD.2 k x (hin _ _ hx)
    · rw [List.getElem?_append_right (by omega)] at hx
      rcases vaA1 (hD1.2 _ _ hx) with h2 | h2
      · rw [h2]; exact hD.2 _ _ hlast
      · exact hA _ h2
theorem dfs_ok {ci : Nat} (h : ci < 7) : ∃ ty : Nat → FieldType, (∀ k, k < (rcl ci).2.2 → parseFieldDescriptor ((rcl ci).2.1 k).2.2.1 = some (ty k)) ∧ ∀ j, j < (rcl ci).2.2 → defaultValue (ty j) = vp_V (dfv ci) j := by
  match ci, h with
  | 0, _ => exact ⟨_, tyX0_ok, by decide +kernel⟩
  | 1, _ => exact ⟨_, tyX1_ok, by decide +kernel⟩
  | 2, _ => exact ⟨_, tyX2_ok, by decide +kernel⟩
  | 3, _ => exact ⟨_, tyX3_ok, by decide +kernel⟩
  | 4, _ => exact ⟨_, tyX4_ok, by decide +kernel⟩
  | 5, _ => exact ⟨_, tyX5_ok, by decide +kernel⟩
  | 6, _ => exact ⟨_, tyX6_ok, by decide +kernel⟩
def nwOK (R : Room) (own : String) (ci N i1 i2 maxL : Nat) (y : MethodName) (yc : ByteArray) (rm : Room) (mc ms : Nat) : Prop :=
  ci < 7 ∧ (rcl ci).2.2 = N ∧ rm.cells = mc ∧ rm.slots = ms ∧ Cond.classLink own i1 (rcl ci).1 ∈ wsL_law ∧ Cond.instantiable (rcl ci).1 N ∈ wsL_law ∧ Cond.initialized (rcl ci).1 ∈ wsL_law ∧ y.cls = (rcl ci).1 ∧ (y.cls ≠ "java/lang/invoke/MethodHandle" ∧ y.cls ≠ "java/lang/invoke/VarHandle") ∧ y.name = "<init>" ∧ (parseMethodDescriptor y.desc).map (fun d => d.parameters.length) = some 0 ∧
  Cond.methodLink own i2 y ∈ wsL_law ∧ Cond.instanceMethod y ∈ wsL_law ∧ Cond.code y yc maxL none ∈ wsL_law ∧ (rm.frames + 1 ≤ R.frames ∧ 8 + (maxL + 11) + rm.locals ≤ R.locals)
section OBJS
variable {p : Program} {l : Launch} {e : Env} {R : Room} {s : State} {m : MethodId} {args : Array Value} {below : List Frame} {meth : Method} {c : Code} {cells slots : Nat} {Q : State → Prop}
variable {D : va_G} {cs : Nat → ClassId} {A : Nat → Prop} {own : String} {cb : ByteArray} {ml pc : Nat} {H : Heap} {locs : List Loc} {ls : Array Slot} {rest : List Value} {ws : va_W}
/-- new C; dup; invokespecial <init> -/
theorem new_obj {S : Type} {adr : S → Nat} {pst : S → Prop} {w : S → va_W} {ci N i1 i2 maxL mc ms : Nat} {y : MethodName} {yc : ByteArray} {rm : Room} (F : Fr p s m args c own cb ml) (E : Ec D cs s) (hA : ∀ q, s.heap.size ≤ q → A q) (hlsz : ls.size = ml)
    (hM : ∀ o sz : Nat, Met l y (.code y yc maxL none :: wsL_law) rm (iPc D cs o sz ci) (iQg adr pst w D o sz ci) mc ms (va_A [(o, .inr (ci, dfv ci))] sz)) (nw : nwOK R own ci N i1 i2 maxL y yc rm mc ms)
    (hP : va_P D vwCl ws H) (hD : va_D A ws) (hS : va_S A s.heap H locs) (hcells : cells + 1 + mc ≤ R.cells) (hslots : slots + N + ms ≤ R.slots)
    (hd0 : decode cb pc = .ok (.new i1, 3)) (hd1 : decode cb (pc + 3) = .ok (.dup, 1)) (hd2 : decode cb (pc + 4) = .ok (.invokespecial i2, 3)) (hfew : (rest.map fun v => v.category).sum ≤ 7)
    (kk : ∀ (u : S) (H1 : Heap) (locs1 : List Loc), pst u → va_P D vwCl (ws ++ w u) H1 → va_D A (ws ++ w u) → va_S A s.heap H1 locs1 → W p l e R s m args below meth c H1 locs1 (cells + 1 + mc) (slots + N + ms) Q (F0 m (pc + 7) ls (.ref (adr u) :: rest))) :
    W p l e R s m args below meth c H locs cells slots Q (F0 m pc ls rest) := by
  obtain ⟨hci, rfl, hrc, hrs, hcl, hinst, hini, hyc, hym, hyn, hyd, hlink, hinm, hcode, hR⟩ := nw
  obtain ⟨hx, hb, hml, hown, hts⟩ := id F
  obtain ⟨ty, hty, hdf⟩ := dfs_ok hci
  refine va_new (T := (rcl ci).2.1) hx hb hts (rcl_in hci) ty hty hown (hts _ hcl) (hts _ hinst) (hts _ hini) E.1 hP hD hS hA (rcl_mem hci) hdf (by omega) (by omega) hd0 (fun q H1 hP1 hD1 hS1 => ?_)
  refine lv_dup hx hb hd1 rfl ?_
  have hlt : q < H1.size := (hP1 ws.length (q, .inr (ci, dfv ci)) (by rw [List.getElem?_append_right (Nat.le_refl _), Nat.sub_self]; rfl)).lt
  have hqA : A q := hD1.2 ws.length (q, .inr (ci, dfv ci)) (by rw [List.getElem?_append_right (Nat.le_refl _), Nat.sub_self]; rfl)
  have hAA : ∀ x, H1.size ≤ x → A x := fun x hx9 => hA x (Nat.le_trans hS1.1 hx9)
  have hAq : ∀ x, va_A [(q, .inr (ci, dfv ci))] H1.size x → A x := fun x hx9 => by
    rcases vaA1 hx9 with rfl | h9
    · exact hqA
    · exact hAA x h9
  have hpre : PreS s H1 (iPc D cs q H1.size ci) (.ref q :: []) := ⟨iPc_bl, fun U hU hW => ⟨rfl, by rw [hU], by
    rw [hU]
    intro k x hx9
    cases k with
    | zero => cases hx9; exact hP1 ws.length _ (by rw [List.getElem?_append_right (Nat.le_refl _), Nat.sub_self]; rfl)
    | succ k => simp at hx9, hlt, Ec.moved hW.alike E⟩⟩
  refine va_callv (a := (Value.ref q :: []).toArray) (va_runI (As := []) (n := 0) (rest := .ref q :: rest) F (hM q H1.size) (cwI 0 hts (ws_goodIn (fun w9 hw9 => ?_)) rfl hrc hrs (hts _ (by rw [hyc]; exact hini)) (hts _ hlink) (hts _ hinm) hyn ⟨hym.1, hym.2, hyd⟩ hR) hpre rfl rfl hlsz rfl ?_ hd2 ⟨by omega, by omega⟩) hS1 (fun x _ hx9 => hAq x hx9) hAq (fun u t H2 locs2 e2 _ hu hB _ hk hS2 => ?_)
  · rcases List.mem_cons.mp hw9 with rfl | hw9
    · exact hcode
    · exact hw9
  · show 2 * 0 + (1 + (rest.map fun v => v.category).sum) ≤ 8
    omega
  · subst e2
    obtain ⟨hu, hpst⟩ := hu
    obtain ⟨hP2, hD2⟩ := join1 hP1 hD1 hk hAA hB.1 hB.2
    have := kk u t.heap locs2 hpst hP2 hD2 hS2
    rw [hu] at this
    exact this
theorem anew_row {C : String} {i N t0 : Nat} (F : Fr p s m args c own cb ml) (E : Ec D cs s) (hA : ∀ q, s.heap.size ≤ q → A q) (hcl : Cond.classLink own i C ∈ wsL_law) (hAO : va_AO C s) (ht : (tyL cs)[t0]? = some (cs t0, .object C)) (hN : N ≤ 1000)
    (hP : va_P D vwCl ws H) (hD : va_D A ws) (hS : va_S A s.heap H locs) (hcells : cells + 1 ≤ R.cells) (hslots : slots + N ≤ R.slots) (hd : decode cb pc = .ok (.anewarray i, 3))
    (kk : ∀ (q : Nat) (H1 : Heap), va_P D vwCl (ws ++ [(q, .inl (cs t0, N, .inr (.inr (.inr (.inr fun _ => none)))))]) H1 → va_D A (ws ++ [(q, .inl (cs t0, N, .inr (.inr (.inr (.inr fun _ => none)))))]) → va_S A s.heap H1 locs → W p l e R s m args below meth c H1 locs (cells + 1) (slots + N) Q (F0 m (pc + 3) ls (.ref q :: rest))) :
    W p l e R s m args below meth c H locs cells slots Q (F0 m pc ls (.int (nI N) :: rest)) := by
  obtain ⟨hx, hb, hml, hown, hts⟩ := id F
  refine va_newq (C := C) (N' := N) hx hb hown (hts _ hcl) hAO E.1 hP hD hS hA (nI_pos (by omega)) (nI_clamp (by omega)) (by omega) hcells hslots hd (fun q cA H1 hK1 hP1 hD1 hS1 => ?_)
  have hlen : (tyL cs).length = 6 := rfl
  obtain ⟨kA, comp, -, -, -, h1⟩ := (hK1.2 6 (cA, .object C) rfl).2
  obtain ⟨kB, compB, -, -, -, h2⟩ := (E.1.2 t0 (cs t0, .object C) ht).2
  obtain rfl : cA = cs t0 := Option.some.inj (h1.symm.trans h2)
  exact kk q H1 hP1 hD1 hS1
def refsOf (gs : List (Nat → Nat)) : Nat → Option Nat := fun j => gs[j]?.map fun f => f 0
theorem refs_app (gs : List (Nat → Nat)) (f : Nat → Nat) : va_up (refsOf gs) gs.length (some (f 0)) = refsOf (gs ++ [f]) := by
  funext j
  unfold va_up refsOf
  by_cases h : j = gs.length
  · subst h
    simp
  · rw [if_neg h]
    by_cases h2 : j < gs.length
    · rw [List.getElem?_append_left h2]
    · rw [List.getElem?_eq_none (by omega), List.getElem?_eq_none (by rw [List.length_append]; show _ + 1 ≤ j; omega)]
end OBJS
