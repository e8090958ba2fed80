section
/-- the tables lay an array of arrays of ty over its rows -/
def va_AOA (ty : FieldType) (s : State) : Prop := (Cond.arrayOver (.array ty)).before #[] s = true
theorem va_AOA.use {ty : FieldType} {args : Array Value} {s : State} (h : va_AOA ty s) : (Cond.arrayOver (.array ty)).before args s = true := h
theorem va_AOA.of {ty : FieldType} {args : Array Value} {s : State} (h : (Cond.arrayOver (.array ty)).before args s = true) : va_AOA ty s := h
theorem va_AOA.moved {ty : FieldType} {u U : State} (hvm : u.vm.Alike U.vm) (h : va_AOA ty u) : va_AOA ty U := by
  have h1 : (Cond.arrayOver (.array ty)).before #[] (u.setVm U.vm) = true := by
    rw [Cond.arrayOver_setVmC hvm (.array ty)]
    exact h
  exact h1
/-! ===== BEGIN new T[n][m]: the outer array a place, the inner ones among the pooled ===== -/
/-- f, but v at every address of l -/
def vr_up {α : Type} (f : Nat → α) (l : List Nat) (v : α) : Nat → α := fun a => if a ∈ l then v else f a
theorem vr_up_in {α : Type} {f : Nat → α} {l : List Nat} {v : α} {a : Nat} (h : a ∈ l) : vr_up f l v a = v := if_pos h
theorem vr_up_ne {α : Type} {f : Nat → α} {l : List Nat} {v : α} {a : Nat} (h : a ∉ l) : vr_up f l v a = f a := if_neg h
theorem vr_rows {L l : List Nat} {f : Nat → va_E} {e : va_E} (h : ∀ a, a ∈ l → a ∉ L) : va_pl L f ++ l.map (fun a => (a, e)) = va_pl (L ++ l) (vr_up f l e) := by
  unfold va_pl
  rw [List.map_append]
  congr 1
  · apply List.map_congr_left
    intro a ha
    rw [vr_up_ne (fun q => h a q ha)]
  · apply List.map_congr_left
    intro a ha
    rw [vr_up_in ha]
theorem vr_lay {X rows : va_W} {x : Nat × va_E} {pl : va_W} {D : va_G} {cl : List vw_C} {H : Heap} (hP : va_P D cl (((X ++ pl) ++ [x]) ++ rows) H) : va_P D cl ((X ++ [x]) ++ (pl ++ rows)) H := by
  rw [List.append_assoc (X ++ pl)] at hP
  have h := va_P.swap hP
  rw [← List.append_assoc X] at h
  have h2 := va_P.swap h
  rw [List.append_assoc (X ++ [x])] at h2
  exact h2
theorem vr_layD {X rows : va_W} {x : Nat × va_E} {pl : va_W} {A : Nat → Prop} (hD : va_D A (((X ++ pl) ++ [x]) ++ rows)) : va_D A ((X ++ [x]) ++ (pl ++ rows)) := by
  rw [List.append_assoc (X ++ pl)] at hD
  have h := va_D.swap hD
  rw [← List.append_assoc X] at h
  have h2 := va_D.swap h
  rw [List.append_assoc (X ++ [x])] at h2
  exact h2
theorem vr_outer (c : ClassId) (N h0 : Nat) : ∀ i : Nat, Jvm.Free.Multi.outerC c N h0 i = arrV c N (fun j => va_rf (if j < i then some (h0 + 1 + j) else none))
  | 0 => by
    show ({ cls := c, slots := Array.replicate N .null, vm := .none } : Cell) = _
    rw [arrV_new]
    refine congrArg (arrV c N) (funext fun j => ?_)
    simp [va_rf]
  | i + 1 => by
    show (Jvm.Free.Multi.outerC c N h0 i).setSlot i (.ref (h0 + 1 + i)) = _
    rw [vr_outer c N h0 i, arrV_store]
    refine congrArg (arrV c N) (funext fun j => ?_)
    by_cases e : j = i
    · subst e
      simp [updV, va_rf]
    · by_cases h : j < i
      · simp [updV, e, h, Nat.lt_succ_of_lt h]
      · simp [updV, e, h, show ¬ j < i + 1 by omega]
section VGM
variable {p : Program} {l : Launch} {e : Env} {R : Room} {s : State} {m : MethodId} {args : Array Value} {below : List Frame} {meth : Method} {c : Code} {H : Heap} {locs : List Loc} {cells slots : Nat} {Q : State → Prop}
variable {cc : ByteArray} {pc : Nat} {ls : Array Slot} {rest : List Value} {D : va_G} {cl : List vw_C} {A : Nat → Prop} {a : Nat} {tys : List (ClassId × FieldType)} {ws : va_W} {H0 : Heap}
theorem va_mna {X : va_W} {L : List Nat} {f : Nat → va_E} {cc : ByteArray} (hexec : p.tables.exec = Jvm.exec) (hb : c.code = cc) {own : String} {index : Nat} {ty : FieldType} {cy : ClassId} (hown : s.vm.findClass own = some m.cls) (hclink : (Cond.classLink own index ("[" ++ (FieldType.array ty).toString)).before args s = true) (hover : va_AOA ty s) (harr : (Cond.arrayClass ty).before args s = true) (hcy : s.vm.findClass (FieldType.array ty).toString = some cy)
    (hK : va_K D cl tys s) (hP : va_P D cl (X ++ va_pl L f) H) (hD : va_D A (X ++ va_pl L f)) (hS : va_S A H0 H locs) (hA : ∀ q, H0.size ≤ q → A q) {n k : Int32} {N' K' : Nat} {z : vp_A} (hn : ¬ n < 0) (hk : ¬ k < 0) (hN : n.toNatClampNeg = N') (hM : k.toNatClampNeg = K')
    (hb1 : N' * 4 ≤ 536870912) (hb2 : K' * componentBytes ty ≤ 536870912) (hb3 : K' ≤ 536870912) (hdf : fits ty (defaultValue ty) = true) (hdd : (defaultValue ty).isDefault = true) (hcells : cells + (1 + N') ≤ R.cells) (hslots : slots + (N' + N' * K') ≤ R.slots) (hz : ∀ c : ClassId, Jvm.Free.Multi.innerC c K' (defaultValue ty) = vp_cell c z) (hdg : decode cc pc = .ok (.multianewarray index 2, 4))
    (kk : ∀ (q : Nat) (r : Nat → Nat) (cA : ClassId) (H1 : Heap), (∀ i j : Nat, i < N' → j < N' → r i = r j → i = j) → (∀ i : Nat, i < N' → r i ∉ L) → va_K D cl (tys ++ [(cA, .array ty)]) s →
      va_P D cl ((X ++ [(q, .inl (cA, N', .inr (.inr (.inr (.inr (fun i => if i < N' then some (r i) else none))))))]) ++ va_pl (L ++ (List.range N').map r) (vr_up f ((List.range N').map r) (.inl (cy, z)))) H1 → va_D A ((X ++ [(q, .inl (cA, N', .inr (.inr (.inr (.inr (fun i => if i < N' then some (r i) else none))))))]) ++ va_pl (L ++ (List.range N').map r) (vr_up f ((List.range N').map r) (.inl (cy, z)))) → va_S A H0 H1 locs →
      W p l e R s m args below meth c H1 locs (cells + 1 + N') (slots + N' + N' * K') Q (F0 m (pc + 4) ls (.ref q :: rest))) : W p l e R s m args below meth c H locs cells slots Q (F0 m pc ls (.int k :: .int n :: rest)) := by
  subst hN
  subst hM
  intro T hT Xs
  obtain ⟨vm₁, cA, comp, -, fA, fC, hO, -, X', step⟩ := Xs.multianewarray2F hexec hown hclink (va_AOA.use hover) harr (g := F0 m pc ls (.int k :: .int n :: rest)) rfl (by rw [hb]; exact hdg) rfl hn hk hb1 hb2 hb3 hdf hdd hcells hslots
  have ec : some cy = some comp := hcy.symm.trans fC
  cases ec
  generalize hF : Jvm.Free.Multi.fill (T.setVm vm₁) cA cy n.toNatClampNeg k.toNatClampNeg (defaultValue ty) n.toNatClampNeg = F at X' step
  have hTh : (T.setVm vm₁).heap = H := hT
  obtain ⟨f1, f2, -, -⟩ := Jvm.Free.Multi.fill_facts (T.setVm vm₁) cA cy n.toNatClampNeg k.toNatClampNeg (defaultValue ty) n.toNatClampNeg
  rw [hF, hTh] at f1 f2
  have hold : ∀ x : Nat, x < H.size → F.heap[x]? = H[x]? := fun x hx => by
    have := Jvm.Free.Multi.fill_old (T.setVm vm₁) cA cy n.toNatClampNeg k.toNatClampNeg (defaultValue ty) (a := x) (by rw [hTh]; exact hx) n.toNatClampNeg
    rw [hF, hTh] at this
    exact this
  have hrow : ∀ j : Nat, j < n.toNatClampNeg → F.heap[H.size + 1 + j]? = some (vp_cell cy z) := fun j hj => by
    have := Jvm.Free.Multi.fill_inner (T.setVm vm₁) cA cy n.toNatClampNeg k.toNatClampNeg (defaultValue ty) n.toNatClampNeg j hj
    rw [hF, hTh, hz] at this
    exact this
  have hout : Jvm.Free.Multi.outerC cA n.toNatClampNeg H.size n.toNatClampNeg = vp_cell cA (n.toNatClampNeg, .inr (.inr (.inr (.inr (fun i => if i < n.toNatClampNeg then some (H.size + 1 + i) else none))))) := by
    rw [vp_cell_q]
    exact vr_outer cA n.toNatClampNeg H.size n.toNatClampNeg
  rw [hout] at f2
  have hlt : ∀ a, a ∈ L → a < H.size := fun a ha => by
    obtain ⟨k9, hk9⟩ := va_pl_get (X := X) (f := f) ha
    exact (hP k9 _ hk9).lt
  have hnl : ∀ i : Nat, i < n.toNatClampNeg → H.size + 1 + i ∉ L := fun i _ h => by
    have := hlt _ h
    omega
  have hnm : ∀ a, a ∈ (List.range n.toNatClampNeg).map (fun i => H.size + 1 + i) → a ∉ L := fun a ha h => by
    obtain ⟨i, -, rfl⟩ := List.mem_map.mp ha
    have := hlt _ h
    omega
  have hP0 : va_P D cl (X ++ va_pl L f) F.heap := hP.kept (fun k9 x hx => hold x.1 ((hP k9 x hx).lt))
  have hP1 : va_P D cl ((X ++ va_pl L f) ++ [(H.size, .inl (cA, n.toNatClampNeg, .inr (.inr (.inr (.inr (fun i => if i < n.toNatClampNeg then some (H.size + 1 + i) else none))))))]) F.heap := hP0.app (fun k9 x hx => by
    have h0 : k9 < 1 := (List.getElem?_eq_some_iff.mp hx).1
    rw [show k9 = 0 by omega] at hx
    cases hx
    exact f2)
  have hP2 : va_P D cl (((X ++ va_pl L f) ++ [(H.size, .inl (cA, n.toNatClampNeg, .inr (.inr (.inr (.inr (fun i => if i < n.toNatClampNeg then some (H.size + 1 + i) else none))))))]) ++ ((List.range n.toNatClampNeg).map (fun i => H.size + 1 + i)).map (fun a => (a, .inl (cy, z)))) F.heap := hP1.app (fun k9 x hx => by
    obtain ⟨a, ha, rfl⟩ := List.mem_map.mp (List.mem_of_getElem? hx)
    obtain ⟨i, hi, rfl⟩ := List.mem_map.mp ha
    exact hrow i (List.mem_range.mp hi))
  have hD2 : va_D A (((X ++ va_pl L f) ++ [(H.size, .inl (cA, n.toNatClampNeg, .inr (.inr (.inr (.inr (fun i => if i < n.toNatClampNeg then some (H.size + 1 + i) else none))))))]) ++ ((List.range n.toNatClampNeg).map (fun i => H.size + 1 + i)).map (fun a => (a, .inl (cy, z)))) := by
    have hD1 := hD.push (e := .inl (cA, n.toNatClampNeg, .inr (.inr (.inr (.inr (fun i => if i < n.toNatClampNeg then some (H.size + 1 + i) else none)))))) hP rfl (hA _ hS.1)
    generalize hW1 : (X ++ va_pl L f) ++ [(H.size, .inl (cA, n.toNatClampNeg, .inr (.inr (.inr (.inr (fun i => if i < n.toNatClampNeg then some (H.size + 1 + i) else none))))))] = W1 at hD1 hP1 ⊢
    have hle : ∀ (k9 : Nat) (x : Nat × va_E), W1[k9]? = some x → x.1 ≤ H.size := fun k9 x hx => by
      rw [← hW1] at hx
      by_cases hl : k9 < (X ++ va_pl L f).length
      · rw [List.getElem?_append_left hl] at hx
        exact Nat.le_of_lt ((hP k9 x hx).lt)
      · rw [List.getElem?_append_right (by omega)] at hx
        have h0 : k9 - (X ++ va_pl L f).length < 1 := (List.getElem?_eq_some_iff.mp hx).1
        rw [show k9 - (X ++ va_pl L f).length = 0 by omega] at hx
        cases hx
        exact Nat.le_refl _
    have hr : ∀ (k9 : Nat) (x : Nat × va_E), (((List.range n.toNatClampNeg).map (fun i => H.size + 1 + i)).map (fun a => ((a, .inl (cy, z)) : Nat × va_E)))[k9]? = some x → x.1 = H.size + 1 + k9 := fun k9 x hx => by
      rw [List.getElem?_map, List.getElem?_map] at hx
      by_cases h9 : k9 < n.toNatClampNeg
      · rw [List.getElem?_range h9] at hx
        cases hx
        rfl
      · have hn0 : (List.range n.toNatClampNeg)[k9]? = none := List.getElem?_eq_none (by rw [List.length_range]; omega)
        rw [hn0] at hx
        cases hx
    refine ⟨fun i j x y hi hj hxy => ?_, fun k9 x hx => ?_⟩
    · by_cases h1 : i < W1.length <;> by_cases h2 : j < W1.length
      · rw [List.getElem?_append_left h1] at hi
        rw [List.getElem?_append_left h2] at hj
        exact hD1.1 i j x y hi hj hxy
      · rw [List.getElem?_append_left h1] at hi
        rw [List.getElem?_append_right (by omega)] at hj
        have := hle _ _ hi
        have := hr _ _ hj
        omega
      · rw [List.getElem?_append_right (by omega)] at hi
        rw [List.getElem?_append_left h2] at hj
        have := hle _ _ hj
        have := hr _ _ hi
        omega
      · rw [List.getElem?_append_right (by omega)] at hi hj
        have := hr _ _ hi
        have := hr _ _ hj
        omega
    · by_cases h1 : k9 < W1.length
      · rw [List.getElem?_append_left h1] at hx
        exact hD1.2 k9 x hx
      · rw [List.getElem?_append_right (by omega)] at hx
        have := hr _ _ hx
        exact hA _ (by have := hS.1; omega)
  have hAr : ArrOfT s cA (.array ty) := fun N9 z9 => by
    obtain ⟨-, k9, hk9, cm9, hkk9⟩ := (hO 0 0 0).1
    exact ⟨(fun q hq => by cases hq), k9, hk9, cm9, hkk9⟩
  have hK2 : va_K D cl (tys ++ [(cA, .array ty)]) s := ⟨hK.1, fun k9 x hx => by
    by_cases hl : k9 < tys.length
    · rw [List.getElem?_append_left hl] at hx
      exact hK.2 k9 x hx
    · rw [List.getElem?_append_right (by omega)] at hx
      have h0 : k9 - tys.length < 1 := (List.getElem?_eq_some_iff.mp hx).1
      rw [show k9 - tys.length = 0 by omega] at hx
      cases hx
      exact ⟨hAr, fA⟩⟩
  obtain ⟨t, a1, b1⟩ := kk H.size (fun i => H.size + 1 + i) cA F.heap (fun i j _ _ h => by have h9 : H.size + 1 + i = H.size + 1 + j := h; omega) hnl hK2 (by rw [← vr_rows hnm]; exact vr_lay hP2) (by rw [← vr_rows hnm]; exact vr_layD hD2) ⟨by rw [f1]; have := hS.1; omega, fun x h1 h2 => (hold x (Nat.lt_of_lt_of_le h1 hS.1)).trans (hS.2.1 x h1 h2), hS.2.2⟩ F rfl X'
  refine ⟨t, step t ?_, b1⟩
  have e : T.heap.size = H.size := by rw [hT]
  rw [e]
  exact a1
end VGM
/-! ===== END ===== -/
end
section
/-! AN ABSTRACT MACHINE over the claim's own instructions: values, a memory by (class, which one, part, place), one step, a run, its limit. Depth d bounds the calls that stand open. -/
abbrev V_ : Type := Int32 ⊕ (Int64 ⊕ (Nat × Nat × Nat))
abbrev vi (x : Int32) : V_ := Sum.inl x
abbrev vl (x : Int64) : V_ := Sum.inr (Sum.inl x)
abbrev vr (c n k : Nat) : V_ := Sum.inr (Sum.inr (c, n, k))
abbrev Mem_ : Type := Nat → Nat → Nat → Nat → Int32
abbrev Lv_ : Type := List (Option V_)
abbrev Rs_ : Type := Int32 × Mem_
abbrev Go_ : Type := Nat → Lv_ → List V_ → Mem_ → Option Rs_
abbrev Cl_ : Type := Nat → List V_ → Mem_ → Option Rs_
abbrev E_ : Type := Instr × Nat × Nat × Nat × Nat × Int32 × Int64
def up (O : Mem_) (c n p j : Nat) (v : Int32) : Mem_ := fun c' n' p' j' => if c' = c ∧ n' = n ∧ p' = p ∧ j' = j then v else O c' n' p' j'
def cpy (O : Mem_) (c0 n0 p0 c n p sp dp len : Nat) : Mem_ := fun c' n' p' j' => if c' = c ∧ n' = n ∧ p' = p ∧ dp ≤ j' ∧ j' < dp + len then O c0 n0 p0 (sp + (j' - dp)) else O c' n' p' j'
/-- a row of longs: each takes two places -/
def lgl (x : Int64) : Int32 := x.toInt32
def lgh (x : Int64) : Int32 := (x >>> 32).toInt32
def lgc (l h : Int32) : Int64 := (h.toInt64 <<< 32) ||| (l.toInt64 &&& 4294967295)
def rdL (O : Mem_) (c n p j : Nat) : Int64 := lgc (O c n p (2 * j)) (O c n p (2 * j + 1))
def upL (O : Mem_) (c n p j : Nat) (v : Int64) : Mem_ := up (up O c n p (2 * j) (lgl v)) c n p (2 * j + 1) (lgh v)
def ib (i : Int32) (N : Nat) : Bool := decide (¬ i < 0) && decide (i.toNatClampNeg < N)
def sel (x : Int32) : Nat := if x = 0 then 0 else 1
def ln : Lv_ → Nat → Option V_
  | [], _ => none
  | x :: _, 0 => x
  | _ :: l, i + 1 => ln l i
def unl : Option V_ → Option V_
  | some (Sum.inr (Sum.inl _)) => none
  | x => x
def ls0 : Lv_ → V_ → Lv_
  | l, Sum.inr (Sum.inl x) => some (vl x) :: none :: l.tail.tail
  | [], v => [some v]
  | _ :: l, v => some v :: l
def lst : Lv_ → Nat → V_ → Lv_
  | l, 0, v => ls0 l v
  | [], 1, v => none :: ls0 [] v
  | x :: l, 1, v => unl x :: ls0 l v
  | [], i + 2, v => none :: lst [] (i + 1) v
  | x :: l, i + 2, v => x :: lst l (i + 1) v
def lay : List V_ → Lv_
  | [] => []
  | Sum.inr (Sum.inl x) :: l => some (vl x) :: none :: lay l
  | v :: l => some v :: lay l
/-- the parts that are rows: kind of their places (0 int, 1 boolean, 2.. references), how many -/
def atb : List (List (Nat × Nat)) := [
  [(9, 0), (9, 0), (0, 24), (0, 24), (0, 6), (0, 6), (0, 4)],
  [(9, 0), (9, 0), (0, 24), (0, 24), (1, 24), (9, 0), (9, 0), (0, 12), (1, 12)],
  [(9, 0), (0, 4), (0, 4), (4, 4), (0, 40), (0, 40), (0, 40), (0, 40)],
  [(9, 0), (0, 400)],
  [(9, 0), (9, 0), (9, 0), (9, 0), (9, 0), (0, 8), (0, 8), (0, 12), (0, 12), (0, 12), (0, 12), (0, 12), (0, 12), (0, 4), (0, 6), (0, 6), (0, 6), (1, 6), (0, 6), (0, 6)],
  [(9, 0), (0, 5), (9, 0), (0, 4), (9, 0), (0, 4), (3, 6), (3, 5)],
  [(9, 0), (9, 0), (9, 0), (9, 0), (9, 0), (2, 2)],
  [(9, 0), (0, 8), (0, 24), (0, 4), (0, 24), (0, 4), (5, 3), (0, 60), (0, 40), (0, 60)]]
def aty (c p : Nat) : Nat := ((atb.getD c []).getD p (9, 0)).1
def aln (c p : Nat) : Nat := ((atb.getD c []).getD p (9, 0)).2
def aref : Nat → Nat → Nat → Nat → V_
  | 6, _, _, i => vr 1 (1 + i) 0
  | 5, _, 6, i => vr 0 (2 + i) 0
  | 5, _, _, i => vr 0 (8 + i) 0
  | c, n, _, i => vr c n (4 + i)
def gfv : Nat → Nat → Nat → Nat → Mem_ → V_
  | 0, c, n, k, O => vi (O c n 0 k)
  | 1, c, n, k, _ => vr c n (k + 1)
  | 2, c, n, k, O => vr 4 (sel (O c n 0 k)) 0
  | m + 3, _, _, _, _ => vr (m / 16) (m % 16) 0
def swg {α : Type} (a : Int32) : List (Int32 × Nat) → Nat → (Nat → α) → α
  | [], d, g => g d
  | (k, t) :: r, d, g => if a = k then g t else swg a r d g
def fw_ : Nat → List V_ → Bool
  | _, [] => true
  | n + 2, Sum.inr (Sum.inl _) :: l => fw_ n l
  | n + 1, Sum.inl _ :: l => fw_ n l
  | n + 1, Sum.inr (Sum.inr _) :: l => fw_ n l
  | _, _ => false
/-- what lies under a call's arguments takes eight words at most -/
def few (l : List V_) : Bool := fw_ 8 l
def sT : List (List Int32) := [[116, 104, 105, 110, 103], [109, 101, 97, 110, 115], [119, 111, 114, 100], [112, 108, 97, 105, 110], [108, 97, 115, 116], [99, 97, 114, 101, 102, 117, 108], [112, 114, 111, 117, 100], [110, 111, 116], [115, 101, 101, 115], [102, 101, 97, 114, 115], [117, 110, 108, 105, 107, 101], [99, 104, 97, 110, 99, 101]]
/-- k places of a row hold 0 or 1 -/
def bok (O : Mem_) (c n p sp k : Nat) : Bool := (List.range k).all fun i => decide (O c n p (sp + i) = 0) || decide (O c n p (sp + i) = 1)
/-- what stands behind a call that is the JDK's: 1000 arraycopy, 1001 max, 1002 min, 1003 length, 1004 charAt -/
def intr : Cl_
  | 1000, [Sum.inr (Sum.inr (c0, n0, p0)), Sum.inl sp, Sum.inr (Sum.inr (c, n, p)), Sum.inl dp, Sum.inl k], O =>
    bif (aty c0 p0).blt 2 && (aty c p).beq (aty c0 p0) then
      if ¬ sp < 0 ∧ ¬ dp < 0 ∧ ¬ k < 0 ∧ sp.toNatClampNeg + k.toNatClampNeg ≤ aln c0 p0 ∧ dp.toNatClampNeg + k.toNatClampNeg ≤ aln c p then
        (bif (aty c0 p0).beq 0 then some (0, cpy O c0 n0 p0 c n p sp.toNatClampNeg dp.toNatClampNeg k.toNatClampNeg)
        else if bok O c0 n0 p0 sp.toNatClampNeg k.toNatClampNeg then some (0, cpy O c0 n0 p0 c n p sp.toNatClampNeg dp.toNatClampNeg k.toNatClampNeg) else none)
      else none
    else none
  | 1001, [Sum.inl x, Sum.inl y], O => some (if x < y then y else x, O)
  | 1002, [Sum.inl x, Sum.inl y], O => some (if y < x then y else x, O)
  | 1003, [Sum.inr (Sum.inr (9, i, 0))], O => some (nI (sT.getD i []).length, O)
  | 1004, [Sum.inr (Sum.inr (9, i, 0)), Sum.inl k], O => if ib k (sT.getD i []).length then some ((sT.getD i []).getD k.toNatClampNeg 0, O) else none
  | _, _, _ => none
def cl_ (f : Nat → Nat → Lv_ → List V_ → Mem_ → Option Rs_) : Cl_ := fun mi a O => bif mi.blt 1000 then f mi 0 (lay a) [] O else intr mi a O
def jmp (c : ClassFile.Cond) (a b : Int32) (t f : Option Rs_) : Option Rs_ := match c with
  | .eq => if a = b then t else f
  | .ne => if a = b then f else t
  | .lt => if a < b then t else f
  | .ge => if a < b then f else t
  | .gt => if b < a then t else f
  | .le => if b < a then f else t
def pI (st : List V_) (g : Int32 → List V_ → Option Rs_) : Option Rs_ := match st with
  | Sum.inl a :: s => g a s
  | _ => none
def pII (st : List V_) (g : Int32 → Int32 → List V_ → Option Rs_) : Option Rs_ := match st with
  | Sum.inl b :: Sum.inl a :: s => g a b s
  | _ => none
def pL (st : List V_) (g : Int64 → List V_ → Option Rs_) : Option Rs_ := match st with
  | Sum.inr (Sum.inl a) :: s => g a s
  | _ => none
def pLL (st : List V_) (g : Int64 → Int64 → List V_ → Option Rs_) : Option Rs_ := match st with
  | Sum.inr (Sum.inl b) :: Sum.inr (Sum.inl a) :: s => g a b s
  | _ => none
def pLI (st : List V_) (g : Int64 → Int32 → List V_ → Option Rs_) : Option Rs_ := match st with
  | Sum.inl b :: Sum.inr (Sum.inl a) :: s => g a b s
  | _ => none
def pR (st : List V_) (g : Nat → Nat → Nat → List V_ → Option Rs_) : Option Rs_ := match st with
  | Sum.inr (Sum.inr (c, n, p)) :: s => g c n p s
  | _ => none
def pRI (st : List V_) (g : Nat → Nat → Nat → Int32 → List V_ → Option Rs_) : Option Rs_ := match st with
  | Sum.inl i :: Sum.inr (Sum.inr (c, n, p)) :: s => g c n p i s
  | _ => none
def pRII (st : List V_) (g : Nat → Nat → Nat → Int32 → Int32 → List V_ → Option Rs_) : Option Rs_ := match st with
  | Sum.inl v :: Sum.inl i :: Sum.inr (Sum.inr (c, n, p)) :: s => g c n p i v s
  | _ => none
def pRIL (st : List V_) (g : Nat → Nat → Nat → Int32 → Int64 → List V_ → Option Rs_) : Option Rs_ := match st with
  | Sum.inr (Sum.inl v) :: Sum.inl i :: Sum.inr (Sum.inr (c, n, p)) :: s => g c n p i v s
  | _ => none
/-- the law's locals where it makes its other rows -/
def hlt : List (Nat × Nat) → Lv_ → Bool
  | [], [] => true
  | (c, p) :: l, some (Sum.inr (Sum.inr (c', n', p'))) :: m => c'.beq c && (n'.beq 0 && (p'.beq p && hlt l m))
  | _, _ => false
def hLv : List (Nat × Nat) := [(8, 0), (6, 0), (7, 1), (7, 2), (7, 3), (7, 4), (7, 5)]
def pRV (st : List V_) (g : Nat → Nat → Nat → V_ → List V_ → Option Rs_) : Option Rs_ := match st with
  | v :: Sum.inr (Sum.inr (c, n, p)) :: s => g c n p v s
  | _ => none
def gI (o : Option V_) (g : Int32 → Option Rs_) : Option Rs_ := match o with
  | some (Sum.inl a) => g a
  | _ => none
def gL (o : Option V_) (g : Int64 → Option Rs_) : Option Rs_ := match o with
  | some (Sum.inr (Sum.inl a)) => g a
  | _ => none
def gR (o : Option V_) (g : Nat → Nat → Nat → Option Rs_) : Option Rs_ := match o with
  | some (Sum.inr (Sum.inr (c, n, p))) => g c n p
  | _ => none
/-- n arguments from the stack, the first pushed first -/
def pN : Nat → List V_ → List V_ → (List V_ → List V_ → Option Rs_) → Option Rs_
  | 0, a, s, g => g a s
  | n + 1, a, v :: s, g => pN n (v :: a) s g
  | _ + 1, _, [], _ => none
/-- the first argument is an object of class c -/
def rcv (c : Nat) : List V_ → Bool
  | Sum.inr (Sum.inr (c', _, p)) :: _ => c'.beq c && p.beq 0
  | _ => false
/-- a call: method x; y holds its number of arguments, its locals (times 16), its receiver's class (times 1024); z: whether it answers -/
def inv (call : Cl_) (virt : Bool) (x y z pc : Nat) (lv : Lv_) (s : List V_) (O : Mem_) (go : Go_) : Option Rs_ :=
  pN (y % 16) [] s fun a t => bif (bif virt then rcv (y / 1024) a else true) && ((lay a).length.ble (y / 16 % 64) && few t) then (call x a O).bind (fun r => match z with
    | 0 => go (pc + 3) lv t r.2
    | _ => go (pc + 3) lv (vi r.1 :: t) r.2) else none
def stp (swT : Nat → List (Int32 × Nat) × Nat) (call : Cl_) (en : E_) (pc : Nat) (lv : Lv_) (st : List V_) (O : Mem_) (go : Go_) : Option Rs_ :=
  match en with
  | (ins, _, x, y, z, k, kl) =>
    match ins with
    | .iconst _ => go (pc + 1) lv (vi k :: st) O
    | .bipush _ => go (pc + 2) lv (vi k :: st) O
    | .sipush _ => go (pc + 3) lv (vi k :: st) O
    | .lconst _ => go (pc + 1) lv (vl kl :: st) O
    | .ldc _ => bif z.beq 0 then go (pc + 2) lv (vi k :: st) O else go (pc + 2) lv (vr 9 x 0 :: st) O
    | .ldc_w _ => go (pc + 3) lv (vi k :: st) O
    | .ldc2_w _ => go (pc + 3) lv (vl kl :: st) O
    | .iload_n _ => gI (ln lv x) fun a => go (pc + 1) lv (vi a :: st) O
    | .iload _ => gI (ln lv x) fun a => go (pc + 2) lv (vi a :: st) O
    | .lload_n _ => gL (ln lv x) fun a => go (pc + 1) lv (vl a :: st) O
    | .lload _ => gL (ln lv x) fun a => go (pc + 2) lv (vl a :: st) O
    | .aload_n _ => gR (ln lv x) fun c n p => go (pc + 1) lv (vr c n p :: st) O
    | .aload _ => gR (ln lv x) fun c n p => go (pc + 2) lv (vr c n p :: st) O
    | .istore_n _ => pI st fun a s => go (pc + 1) (lst lv x (vi a)) s O
    | .istore _ => pI st fun a s => go (pc + 2) (lst lv x (vi a)) s O
    | .lstore_n _ => pL st fun a s => go (pc + 1) (lst lv x (vl a)) s O
    | .lstore _ => pL st fun a s => go (pc + 2) (lst lv x (vl a)) s O
    | .astore_n _ => pR st fun c n p s => go (pc + 1) (lst lv x (vr c n p)) s O
    | .astore _ => pR st fun c n p s => go (pc + 2) (lst lv x (vr c n p)) s O
    | .iinc _ _ => gI (ln lv x) fun a => go (pc + 3) (lst lv x (vi (a + k))) st O
    | .iadd => pII st fun a b s => go (pc + 1) lv (vi (a + b) :: s) O
    | .isub => pII st fun a b s => go (pc + 1) lv (vi (a - b) :: s) O
    | .imul => pII st fun a b s => go (pc + 1) lv (vi (a * b) :: s) O
    | .iand => pII st fun a b s => go (pc + 1) lv (vi (a &&& b) :: s) O
    | .ior => pII st fun a b s => go (pc + 1) lv (vi (a ||| b) :: s) O
    | .ixor => pII st fun a b s => go (pc + 1) lv (vi (a ^^^ b) :: s) O
    | .ishl => pII st fun a b s => go (pc + 1) lv (vi (a <<< (b &&& 31)) :: s) O
    | .ishr => pII st fun a b s => go (pc + 1) lv (vi (a >>> (b &&& 31)) :: s) O
    | .iushr => pII st fun a b s => go (pc + 1) lv (vi (a.toUInt32 >>> (b.toUInt32 &&& Int32.toUInt32 31)).toInt32 :: s) O
    | .idiv => pII st fun a b s => if b = 0 then none else go (pc + 1) lv (vi (a / b) :: s) O
    | .irem => pII st fun a b s => if b = 0 then none else go (pc + 1) lv (vi (a - a / b * b) :: s) O
    | .ineg => pI st fun a s => go (pc + 1) lv (vi (-a) :: s) O
    | .lrem => pLL st fun a b s => if b = 0 then none else go (pc + 1) lv (vl (a - a / b * b) :: s) O
    | .ladd => pLL st fun a b s => go (pc + 1) lv (vl (a + b) :: s) O
    | .land => pLL st fun a b s => go (pc + 1) lv (vl (a &&& b) :: s) O
    | .lor => pLL st fun a b s => go (pc + 1) lv (vl (a ||| b) :: s) O
    | .lshl => pLI st fun a b s => go (pc + 1) lv (vl (a <<< (b.toInt64 &&& 63)) :: s) O
    | .lshr => pLI st fun a b s => go (pc + 1) lv (vl (a >>> (b.toInt64 &&& 63)) :: s) O
    | .lushr => pLI st fun a b s => go (pc + 1) lv (vl (a.toUInt64 >>> (b.toInt64.toUInt64 &&& Int64.toUInt64 63)).toInt64 :: s) O
    | .lcmp => pLL st fun a b s => go (pc + 1) lv (vi (lg_cmp a b) :: s) O
    | .i2l => pI st fun a s => go (pc + 1) lv (vl a.toInt64 :: s) O
    | .l2i => pL st fun a s => go (pc + 1) lv (vi a.toInt32 :: s) O
    | .i2b => pI st fun a s => go (pc + 1) lv (vi a.toInt8.toInt32 :: s) O
    | .i2s => pI st fun a s => go (pc + 1) lv (vi a.toInt16.toInt32 :: s) O
    | .dup => match st with
      | Sum.inl a :: s => go (pc + 1) lv (vi a :: vi a :: s) O
      | Sum.inr (Sum.inr (c, n, p)) :: s => go (pc + 1) lv (vr c n p :: vr c n p :: s) O
      | _ => none
    | .dup2 => pRI st fun c n p a s => go (pc + 1) lv (vi a :: vr c n p :: vi a :: vr c n p :: s) O
    | .pop => pI st fun _ s => go (pc + 1) lv s O
    | .ifCond c _ => pI st fun a s => jmp c a 0 (go x lv s O) (go (pc + 3) lv s O)
    | .if_icmp c _ => pII st fun a b s => jmp c a b (go x lv s O) (go (pc + 3) lv s O)
    | .goto _ => go x lv st O
    | .tableswitch _ _ _ _ => pI st fun a s => swg a (swT x).1 (swT x).2 (fun t => go t lv s O)
    | .lookupswitch _ _ => pI st fun a s => swg a (swT x).1 (swT x).2 (fun t => go t lv s O)
    | .getfield _ => pR st fun c n p s => bif c.beq x && p.beq 0 then go (pc + 3) lv (gfv z c n y O :: s) O else none
    | .putfield _ => pRV st fun c n p v s => bif c.beq x && p.beq 0 then
        (match z, v with
        | 0, Sum.inl a => go (pc + 3) lv s (up O c n 0 y a)
        | 1, Sum.inl a => if a = 0 ∨ a = 1 then go (pc + 3) lv s (up O c n 0 y a) else none
        | 2, Sum.inr (Sum.inr (c2, n2, p2)) => bif c2.beq 4 && p2.beq 0 then go (pc + 3) lv s (up O c n 0 y (nI n2)) else none
        | _, _ => none) else none
    | .iaload => pRI st fun c n p i s =>
        bif c.beq 8 then (if ib i (O 8 0 1 0).toNatClampNeg then go (pc + 1) lv (vi (O 8 0 0 i.toNatClampNeg) :: s) O else none)
        else bif (aty c p).beq 0 then (if ib i (aln c p) then go (pc + 1) lv (vi (O c n p i.toNatClampNeg) :: s) O else none) else none
    | .baload => pRI st fun c n p i s =>
        bif (aty c p).beq 1 then (if ib i (aln c p) then go (pc + 1) lv (vi (O c n p i.toNatClampNeg) :: s) O else none) else none
    | .aaload => pRI st fun c n p i s =>
        bif Nat.blt 1 (aty c p) && (aty c p).blt 5 then (if ib i (aln c p) then go (pc + 1) lv (aref c n p i.toNatClampNeg :: s) O else none) else none
    | .iastore => pRII st fun c n p i v s =>
        bif (aty c p).beq 0 then (if ib i (aln c p) then go (pc + 1) lv s (up O c n p i.toNatClampNeg v) else none) else none
    | .bastore => pRII st fun c n p i v s =>
        bif (aty c p).beq 1 then (if ib i (aln c p) then (if v = 0 ∨ v = 1 then go (pc + 1) lv s (up O c n p i.toNatClampNeg v) else none) else none) else none
    | .laload => pRI st fun c n p i s =>
        bif (aty c p).beq 5 then (if ib i (aln c p) then go (pc + 1) lv (vl (rdL O c n p i.toNatClampNeg) :: s) O else none) else none
    | .lastore => pRIL st fun c n p i v s =>
        bif (aty c p).beq 5 then (if ib i (aln c p) then go (pc + 1) lv s (upL O c n p i.toNatClampNeg v) else none) else none
    | .newarray _ => match st with
      | [Sum.inl k] => bif pc.beq 305 && hlt hLv lv then (if k = nI 60 then some (nI 7, O) else none) else none
      | _ => none
    | .arraylength => pR st fun c n p s => bif c.beq 8 then go (pc + 1) lv (vi (O 8 0 1 0) :: s) O else none
    | .invokevirtual _ => inv call true x y z pc lv st O go
    | .invokestatic _ => inv call false x y z pc lv st O go
    | .ireturn => match st with
      | [Sum.inl a] => bif z.beq 0 then some (a, O) else if a = 0 ∨ a = 1 then some (a, O) else none
      | _ => none
    | .return_ => match st with
      | [] => some (0, O)
      | _ => none
    | _ => none
def lk1 : List (Nat × E_) → Nat → E_
  | [], _ => (.nop, 0, 0, 0, 0, 0, 0)
  | (q, e) :: l, pc => bif q.beq pc then e else lk1 l pc
def lk (tb : List (List (Nat × E_))) (pc : Nat) : E_ := lk1 (tb.getD (pc / 32) []) pc
/-- the places where a run is cut, and which locals it keeps there -/
def ctk : List (Nat × List Bool) → Nat → Option (List Bool)
  | [], _ => none
  | (q, k) :: l, pc => bif q.beq pc then some k else ctk l pc
def msk : List Bool → Lv_ → Lv_
  | [], _ => []
  | _, [] => []
  | b :: m, x :: l => (bif b then x else none) :: msk m l
def ctl (ct : List (Nat × List Bool)) (pc : Nat) (lv : Lv_) : Lv_ := match ctk ct pc with
  | some k => msk k lv
  | none => lv
def rn_ (swT : Nat → List (Int32 × Nat) × Nat) (call : Cl_) (tb : List (List (Nat × E_))) (ct : List (Nat × List Bool)) : Nat → Go_
  | 0 => fun _ _ _ _ => none
  | n + 1 => fun pc lv st O => stp swT call (lk tb pc) pc lv st O (fun pc lv st O => rn_ swT call tb ct n pc (ctl ct pc lv) st O)
/-- k steps, but no further than the next place where runs are cut; from there on g -/
def un_ (swT : Nat → List (Int32 × Nat) × Nat) (call : Cl_) (tb : List (List (Nat × E_))) (ct : List (Nat × List Bool)) (g : Go_) : Nat → Go_
  | 0 => g
  | n + 1 => fun pc lv st O => stp swT call (lk tb pc) pc lv st O (fun pc lv st O => match ctk ct pc with
    | some k => g pc (msk k lv) st O
    | none => un_ swT call tb ct g n pc lv st O)
/-- what some stage of a growing row of answers says -/
noncomputable def lim_ (f : Nat → Option Rs_) : Option Rs_ := @dite _ (∃ n, (f n).isSome = true) (Classical.propDecidable _) (fun h => f (Classical.choose h)) (fun _ => none)
/-- F asks its continuation at one place at most -/
def once (F : Go_ → Option Rs_) : Prop := ∀ (go : Go_) (r : Rs_), F go = some r → (∀ go' : Go_, F go' = some r) ∨ ∃ pc lv st O, go pc lv st O = some r ∧ ∀ go' : Go_, go' pc lv st O = some r → F go' = some r
theorem once_go (pc : Nat) (lv : Lv_) (st : List V_) (O : Mem_) : once (fun go => go pc lv st O) := fun _ _ h => Or.inr ⟨pc, lv, st, O, h, fun _ h => h⟩
theorem once_k (o : Option Rs_) : once (fun _ => o) := fun _ _ h => Or.inl fun _ => h
theorem once_ite {c : Prop} [Decidable c] {F G : Go_ → Option Rs_} (hF : once F) (hG : once G) : once (fun go => if c then F go else G go) := by
  intro go r h
  by_cases hc : c
  · simp only [hc, if_true] at h ⊢; exact hF go r h
  · simp only [hc, if_false] at h ⊢; exact hG go r h
theorem once_cond {c : Bool} {F G : Go_ → Option Rs_} (hF : once F) (hG : once G) : once (fun go => bif c then F go else G go) := by
  intro go r h
  cases c
  · exact hG go r h
  · exact hF go r h
theorem once_bind {o : Option Rs_} {g : Rs_ → Go_ → Option Rs_} (hg : ∀ a, once (g a)) : once (fun go => o.bind (fun a => g a go)) := by
  intro go r h
  cases o with
  | none => exact Or.inl fun _ => h
  | some a => exact hg a go r h
theorem once_pI {st : List V_} {g : Int32 → List V_ → Go_ → Option Rs_} (hg : ∀ a s, once (g a s)) : once (fun go => pI st (fun a s => g a s go)) := by
  intro go r h
  unfold pI at h ⊢
  split at h
  · exact hg _ _ go r h
  · cases h
theorem once_pII {st : List V_} {g : Int32 → Int32 → List V_ → Go_ → Option Rs_} (hg : ∀ a b s, once (g a b s)) : once (fun go => pII st (fun a b s => g a b s go)) := by
  intro go r h
  unfold pII at h ⊢
  split at h
  · exact hg _ _ _ go r h
  · cases h
theorem once_pL {st : List V_} {g : Int64 → List V_ → Go_ → Option Rs_} (hg : ∀ a s, once (g a s)) : once (fun go => pL st (fun a s => g a s go)) := by
  intro go r h
  unfold pL at h ⊢
  split at h
  · exact hg _ _ go r h
  · cases h
theorem once_pLL {st : List V_} {g : Int64 → Int64 → List V_ → Go_ → Option Rs_} (hg : ∀ a b s, once (g a b s)) : once (fun go => pLL st (fun a b s => g a b s go)) := by
  intro go r h
  unfold pLL at h ⊢
  split at h
  · exact hg _ _ _ go r h
  · cases h
theorem once_pLI {st : List V_} {g : Int64 → Int32 → List V_ → Go_ → Option Rs_} (hg : ∀ a b s, once (g a b s)) : once (fun go => pLI st (fun a b s => g a b s go)) := by
  intro go r h
  unfold pLI at h ⊢
  split at h
  · exact hg _ _ _ go r h
  · cases h
theorem once_pR {st : List V_} {g : Nat → Nat → Nat → List V_ → Go_ → Option Rs_} (hg : ∀ c n p s, once (g c n p s)) : once (fun go => pR st (fun c n p s => g c n p s go)) := by
  intro go r h
  unfold pR at h ⊢
  split at h
  · exact hg _ _ _ _ go r h
  · cases h
theorem once_pRI {st : List V_} {g : Nat → Nat → Nat → Int32 → List V_ → Go_ → Option Rs_} (hg : ∀ c n p i s, once (g c n p i s)) : once (fun go => pRI st (fun c n p i s => g c n p i s go)) := by
  intro go r h
  unfold pRI at h ⊢
  split at h
  · exact hg _ _ _ _ _ go r h
  · cases h
theorem once_pRII {st : List V_} {g : Nat → Nat → Nat → Int32 → Int32 → List V_ → Go_ → Option Rs_} (hg : ∀ c n p i v s, once (g c n p i v s)) : once (fun go => pRII st (fun c n p i v s => g c n p i v s go)) := by
  intro go r h
  unfold pRII at h ⊢
  split at h
  · exact hg _ _ _ _ _ _ go r h
  · cases h
theorem once_pRIL {st : List V_} {g : Nat → Nat → Nat → Int32 → Int64 → List V_ → Go_ → Option Rs_} (hg : ∀ c n p i v s, once (g c n p i v s)) : once (fun go => pRIL st (fun c n p i v s => g c n p i v s go)) := by
  intro go r h
  unfold pRIL at h ⊢
  split at h
  · exact hg _ _ _ _ _ _ go r h
  · cases h
theorem once_pRV {st : List V_} {g : Nat → Nat → Nat → V_ → List V_ → Go_ → Option Rs_} (hg : ∀ c n p v s, once (g c n p v s)) : once (fun go => pRV st (fun c n p v s => g c n p v s go)) := by
  intro go r h
  unfold pRV at h ⊢
  split at h
  · exact hg _ _ _ _ _ go r h
  · cases h
theorem once_gI {o : Option V_} {g : Int32 → Go_ → Option Rs_} (hg : ∀ a, once (g a)) : once (fun go => gI o (fun a => g a go)) := by
  intro go r h
  unfold gI at h ⊢
  split at h
  · exact hg _ go r h
  · cases h
theorem once_gL {o : Option V_} {g : Int64 → Go_ → Option Rs_} (hg : ∀ a, once (g a)) : once (fun go => gL o (fun a => g a go)) := by
  intro go r h
  unfold gL at h ⊢
  split at h
  · exact hg _ go r h
  · cases h
theorem once_gR {o : Option V_} {g : Nat → Nat → Nat → Go_ → Option Rs_} (hg : ∀ c n p, once (g c n p)) : once (fun go => gR o (fun c n p => g c n p go)) := by
  intro go r h
  unfold gR at h ⊢
  split at h
  · exact hg _ _ _ go r h
  · cases h
theorem once_jmp {c : ClassFile.Cond} {a b : Int32} {F G : Go_ → Option Rs_} (hF : once F) (hG : once G) : once (fun go => jmp c a b (F go) (G go)) := by
  unfold jmp
  cases c <;> first | exact once_ite hF hG | exact once_ite hG hF
theorem once_swg {a : Int32} {g : Nat → Go_ → Option Rs_} (hg : ∀ t, once (g t)) : ∀ (l : List (Int32 × Nat)) (d : Nat), once (fun go => swg a l d (fun t => g t go))
  | [], d => hg d
  | (k, t) :: l, d => by
    unfold swg
    exact once_ite (hg t) (once_swg hg l d)
section
variable {swT : Nat → List (Int32 × Nat) × Nat} {call : Cl_}
theorem once_pN {g : List V_ → List V_ → Go_ → Option Rs_} (hg : ∀ a t, once (g a t)) : ∀ (n : Nat) (a s : List V_), once (fun go => pN n a s (fun a t => g a t go))
  | 0, a, s => hg a s
  | n + 1, a, v :: s => once_pN hg n (v :: a) s
  | n + 1, a, [] => once_k none
theorem once_inv (virt : Bool) (x y z pc : Nat) (lv : Lv_) (s : List V_) (O : Mem_) : once (fun go => inv call virt x y z pc lv s O go) := by
  unfold inv
  refine once_pN (fun a t => once_cond (once_bind fun r => ?_) (once_k none)) _ _ _
  cases z
  · exact once_go _ _ _ _
  · exact once_go _ _ _ _
set_option maxHeartbeats 4000000 in
theorem once_stp (en : E_) (pc : Nat) (lv : Lv_) (st : List V_) (O : Mem_) : once (fun go => stp swT call en pc lv st O go) := by
  obtain ⟨ins, len, x, y, z, k, kl⟩ := en
  cases ins <;> dsimp only [stp] <;> first
    | exact once_k _
    | exact once_go _ _ _ _
    | exact once_inv _ _ _ _ _ _ _ _
    | exact once_gI fun _ => once_go _ _ _ _
    | exact once_gL fun _ => once_go _ _ _ _
    | exact once_gR fun _ _ _ => once_go _ _ _ _
    | exact once_pI fun _ _ => once_go _ _ _ _
    | exact once_pII fun _ _ _ => once_go _ _ _ _
    | exact once_pL fun _ _ => once_go _ _ _ _
    | exact once_pLL fun _ _ _ => once_go _ _ _ _
    | exact once_pLI fun _ _ _ => once_go _ _ _ _
    | exact once_pR fun _ _ _ _ => once_go _ _ _ _
    | exact once_pRI fun _ _ _ _ _ => once_go _ _ _ _
    | exact once_pII fun _ _ _ => once_ite (once_k none) (once_go _ _ _ _)
    | exact once_pLL fun _ _ _ => once_ite (once_k none) (once_go _ _ _ _)
    | exact once_pRIL fun _ _ _ _ _ _ => once_cond (once_ite (once_go _ _ _ _) (once_k none)) (once_k none)
    | exact once_pI fun _ _ => once_jmp (once_go _ _ _ _) (once_go _ _ _ _)
    | exact once_pII fun _ _ _ => once_jmp (once_go _ _ _ _) (once_go _ _ _ _)
    | exact once_pI fun _ _ => once_swg (fun _ => once_go _ _ _ _) _ _
    | exact once_cond (once_go _ _ _ _) (once_go _ _ _ _)
    | exact once_pR fun _ _ _ _ => once_cond (once_go _ _ _ _) (once_k none)
    | exact once_pRI fun _ _ _ _ _ => once_cond (once_ite (once_go _ _ _ _) (once_k none)) (once_cond (once_ite (once_go _ _ _ _) (once_k none)) (once_k none))
    | exact once_pRI fun _ _ _ _ _ => once_cond (once_ite (once_go _ _ _ _) (once_k none)) (once_k none)
    | exact once_pRII fun _ _ _ _ _ _ => once_cond (once_ite (once_go _ _ _ _) (once_k none)) (once_k none)
    | exact once_pRII fun _ _ _ _ _ _ => once_cond (once_ite (once_ite (once_go _ _ _ _) (once_k none)) (once_k none)) (once_k none)
    | (split <;> first | exact once_go _ _ _ _ | exact once_k _)
    | (refine once_pRV fun c n p v s => once_cond ?_ (once_k none)
       split <;> first | exact once_go _ _ _ _ | exact once_k _ | exact once_ite (once_go _ _ _ _) (once_k none) | exact once_cond (once_go _ _ _ _) (once_k none))
end
/-- the runs at depth d: which method, from where -/
noncomputable def ex_ (swT : Nat → List (Int32 × Nat) × Nat) (tbs : List (List (List (Nat × E_)))) (cts : List (List (Nat × List Bool))) : Nat → Nat → Go_
  | 0, _ => fun _ _ _ _ => none
  | d + 1, mi => fun pc lv st O => lim_ (fun n => rn_ swT (cl_ (ex_ swT tbs cts d)) (tbs.getD mi []) (cts.getD mi []) n pc lv st O)
section
variable {swT : Nat → List (Int32 × Nat) × Nat} {call : Cl_} {tb : List (List (Nat × E_))} {ct : List (Nat × List Bool)}
theorem rn_s (n pc : Nat) (lv : Lv_) (st : List V_) (O : Mem_) : rn_ swT call tb ct (n + 1) pc lv st O = stp swT call (lk tb pc) pc lv st O (fun pc lv st O => rn_ swT call tb ct n pc (ctl ct pc lv) st O) := rfl
theorem rn_mono : ∀ (n : Nat) (pc : Nat) (lv : Lv_) (st : List V_) (O : Mem_) (r : Rs_), rn_ swT call tb ct n pc lv st O = some r → rn_ swT call tb ct (n + 1) pc lv st O = some r
  | 0, _, _, _, _, _, h => by cases h
  | n + 1, pc, lv, st, O, r, h => by
    rw [rn_s] at h
    rw [rn_s]
    rcases once_stp (swT := swT) (call := call) (lk tb pc) pc lv st O (fun pc lv st O => rn_ swT call tb ct n pc (ctl ct pc lv) st O) r h with h1 | ⟨pc', lv', st', O', h1, h2⟩
    · exact h1 (fun pc lv st O => rn_ swT call tb ct (n + 1) pc (ctl ct pc lv) st O)
    · exact h2 (fun pc lv st O => rn_ swT call tb ct (n + 1) pc (ctl ct pc lv) st O) (rn_mono n _ _ _ _ r h1)
theorem rn_le {n m : Nat} (h : n ≤ m) {pc : Nat} {lv : Lv_} {st : List V_} {O : Mem_} {r : Rs_} (hr : rn_ swT call tb ct n pc lv st O = some r) : rn_ swT call tb ct m pc lv st O = some r := by
  induction h with
  | refl => exact hr
  | step _ ih => exact rn_mono _ _ _ _ _ r ih
theorem lim_some {f : Nat → Option Rs_} {r : Rs_} (hm : ∀ n m r, n ≤ m → f n = some r → f m = some r) : lim_ f = some r ↔ ∃ n, f n = some r := by
  unfold lim_
  constructor
  · intro h
    split at h
    · exact ⟨_, h⟩
    · cases h
  · rintro ⟨n, hn⟩
    have he : ∃ n, (f n).isSome = true := ⟨n, by rw [hn]; rfl⟩
    rw [dif_pos he]
    obtain ⟨r', hr'⟩ := Option.isSome_iff_exists.mp (Classical.choose_spec he)
    rw [hr']
    rcases Nat.le_total n (Classical.choose he) with q | q
    · have := hm _ _ _ q hn
      rw [this] at hr'
      exact hr'.symm
    · have := hm _ _ _ q hr'
      rw [this] at hn
      exact hn
theorem opt_ext {a b : Option Rs_} (h : ∀ r, a = some r ↔ b = some r) : a = b := by
  cases a with
  | none => cases b with
    | none => rfl
    | some r => exact ((h r).mpr rfl)
  | some r => exact ((h r).mp rfl).symm
theorem lim_rn (pc : Nat) (lv : Lv_) (st : List V_) (O : Mem_) : lim_ (fun n => rn_ swT call tb ct n pc lv st O) = stp swT call (lk tb pc) pc lv st O (fun pc lv st O => lim_ (fun n => rn_ swT call tb ct n pc (ctl ct pc lv) st O)) := by
  refine opt_ext fun r => ?_
  rw [lim_some (fun n m r h hr => rn_le h hr)]
  constructor
  · rintro ⟨n, hn⟩
    cases n with
    | zero => cases hn
    | succ n =>
      rw [rn_s] at hn
      rcases once_stp (swT := swT) (call := call) (lk tb pc) pc lv st O (fun pc lv st O => rn_ swT call tb ct n pc (ctl ct pc lv) st O) r hn with h1 | ⟨pc', lv', st', O', h1, h2⟩
      · exact h1 (fun pc lv st O => lim_ (fun n => rn_ swT call tb ct n pc (ctl ct pc lv) st O))
      · exact h2 (fun pc lv st O => lim_ (fun n => rn_ swT call tb ct n pc (ctl ct pc lv) st O)) ((lim_some (fun n m r h hr => rn_le h hr)).mpr ⟨n, h1⟩)
  · intro h
    rcases once_stp (swT := swT) (call := call) (lk tb pc) pc lv st O (fun pc lv st O => lim_ (fun n => rn_ swT call tb ct n pc (ctl ct pc lv) st O)) r h with h1 | ⟨pc', lv', st', O', h1, h2⟩
    · exact ⟨1, h1 (fun pc lv st O => rn_ swT call tb ct 0 pc (ctl ct pc lv) st O)⟩
    · obtain ⟨n, hn⟩ := (lim_some (fun n m r h hr => rn_le h hr)).mp h1
      exact ⟨n + 1, h2 (fun pc lv st O => rn_ swT call tb ct n pc (ctl ct pc lv) st O) hn⟩
end
section
variable {swT : Nat → List (Int32 × Nat) × Nat} {tbs : List (List (List (Nat × E_)))} {cts : List (List (Nat × List Bool))}
theorem ex_eq (d mi pc : Nat) (lv : Lv_) (st : List V_) (O : Mem_) : ex_ swT tbs cts (d + 1) mi pc lv st O = stp swT (cl_ (ex_ swT tbs cts d)) (lk (tbs.getD mi []) pc) pc lv st O (fun pc lv st O => ex_ swT tbs cts (d + 1) mi pc (ctl (cts.getD mi []) pc lv) st O) := lim_rn pc lv st O
theorem ex_un_ (d mi : Nat) : ∀ (n pc : Nat) (lv : Lv_) (st : List V_) (O : Mem_), ex_ swT tbs cts (d + 1) mi pc lv st O = un_ swT (cl_ (ex_ swT tbs cts d)) (tbs.getD mi []) (cts.getD mi []) (ex_ swT tbs cts (d + 1) mi) n pc lv st O
  | 0, pc, lv, st, O => rfl
  | n + 1, pc, lv, st, O => by
    rw [ex_eq]
    unfold un_
    congr 1
    funext pc lv st O
    unfold ctl
    split
    · rfl
    · exact ex_un_ d mi n pc lv st O
end
end
section
/-! the program: its methods' instructions with what they name, by program out of the listing; 95 methods -/
def tX0_blank : List (List (Nat × E_)) := [[(0, (.aload_n 0, 1, 0, 0, 0, 0, 0)), (1, (.iconst 0, 1, 0, 0, 0, 0, 0)), (2, (.putfield 27, 3, 0, 0, 0, 342, 0)), (5, (.iconst 0, 1, 0, 0, 0, 0, 0)), (6, (.istore_n 2, 1, 2, 0, 0, 0, 0)), (7, (.iload_n 2, 1, 2, 0, 0, 0, 0)), (8, (.bipush 24, 2, 0, 0, 0, 24, 0)), (10, (.if_icmp .ge 24, 3, 34, 0, 0, 0, 0)), (13, (.aload_n 0, 1, 0, 0, 0, 0, 0)), (14, (.getfield 9, 3, 0, 1, 1, 75, 0)), (17, (.iload_n 2, 1, 2, 0, 0, 0, 0)), (18, (.bipush (-4), 2, 0, 0, 0, (-4), 0)), (20, (.iastore, 1, 0, 0, 0, 0, 0)), (21, (.aload_n 0, 1, 0, 0, 0, 0, 0)), (22, (.getfield 15, 3, 0, 2, 1, 76, 0)), (25, (.iload_n 2, 1, 2, 0, 0, 0, 0)), (26, (.iconst 0, 1, 0, 0, 0, 0, 0)), (27, (.iastore, 1, 0, 0, 0, 0, 0)), (28, (.iinc 2 1, 3, 2, 0, 0, 1, 0)), (31, (.goto (-24), 3, 7, 0, 0, 0, 0))],
  [(34, (.iconst 0, 1, 0, 0, 0, 0, 0)), (35, (.istore_n 2, 1, 2, 0, 0, 0, 0)), (36, (.iload_n 2, 1, 2, 0, 0, 0, 0)), (37, (.bipush 6, 2, 0, 0, 0, 6, 0)), (39, (.if_icmp .ge 25, 3, 64, 0, 0, 0, 0)), (42, (.aload_n 0, 1, 0, 0, 0, 0, 0)), (43, (.getfield 18, 3, 0, 3, 1, 77, 0)), (46, (.iload_n 2, 1, 2, 0, 0, 0, 0)), (47, (.bipush (-4), 2, 0, 0, 0, (-4), 0)), (49, (.iastore, 1, 0, 0, 0, 0, 0)), (50, (.aload_n 0, 1, 0, 0, 0, 0, 0)), (51, (.getfield 21, 3, 0, 4, 1, 78, 0)), (54, (.iload_n 2, 1, 2, 0, 0, 0, 0)), (55, (.bipush (-4), 2, 0, 0, 0, (-4), 0)), (57, (.iastore, 1, 0, 0, 0, 0, 0)), (58, (.iinc 2 1, 3, 2, 0, 0, 1, 0)), (61, (.goto (-25), 3, 36, 0, 0, 0, 0))],
  [(64, (.iconst 0, 1, 0, 0, 0, 0, 0)), (65, (.istore_n 2, 1, 2, 0, 0, 0, 0)), (66, (.iload_n 2, 1, 2, 0, 0, 0, 0)), (67, (.iconst 4, 1, 0, 0, 0, 4, 0)), (68, (.if_icmp .ge 19, 3, 87, 0, 0, 0, 0)), (71, (.aload_n 0, 1, 0, 0, 0, 0, 0)), (72, (.getfield 24, 3, 0, 5, 1, 79, 0)), (75, (.iload_n 2, 1, 2, 0, 0, 0, 0)), (76, (.aload_n 1, 1, 1, 0, 0, 0, 0)), (77, (.invokevirtual 31, 3, 49, 4113, 1, 343, 0)), (80, (.iastore, 1, 0, 0, 0, 0, 0)), (81, (.iinc 2 1, 3, 2, 0, 0, 1, 0)), (84, (.goto (-18), 3, 66, 0, 0, 0, 0)), (87, (.return_, 1, 0, 0, 0, 0, 0))]]
def tX0_witness : List (List (Nat × E_)) := [[(0, (.aload_n 1, 1, 1, 0, 0, 0, 0)), (1, (.iload_n 3, 1, 3, 0, 0, 0, 0)), (2, (.invokevirtual 43, 3, 45, 4130, 1, 426, 0)), (5, (.ifCond .eq 12, 3, 17, 0, 0, 0, 0)), (8, (.aload_n 1, 1, 1, 0, 0, 0, 0)), (9, (.iload 4, 2, 4, 0, 0, 0, 0)), (11, (.invokevirtual 47, 3, 43, 4130, 1, 427, 0)), (14, (.ifCond .ne 5, 3, 19, 0, 0, 0, 0)), (17, (.iconst 0, 1, 0, 0, 0, 0, 0)), (18, (.ireturn, 1, 0, 0, 1, 0, 0)), (19, (.aload_n 0, 1, 0, 0, 0, 0, 0)), (20, (.getfield 24, 3, 0, 5, 1, 79, 0)), (23, (.iload_n 3, 1, 3, 0, 0, 0, 0)), (24, (.iaload, 1, 0, 0, 0, 0, 0)), (25, (.istore 6, 2, 6, 0, 0, 0, 0)), (27, (.aload_n 0, 1, 0, 0, 0, 0, 0)), (28, (.getfield 24, 3, 0, 5, 1, 79, 0)), (31, (.iload_n 3, 1, 3, 0, 0, 0, 0))],
  [(32, (.dup2, 1, 0, 0, 0, 0, 0)), (33, (.iaload, 1, 0, 0, 0, 0, 0)), (34, (.aload_n 1, 1, 1, 0, 0, 0, 0)), (35, (.iload 4, 2, 4, 0, 0, 0, 0)), (37, (.iload 5, 2, 5, 0, 0, 0, 0)), (39, (.invokevirtual 50, 3, 52, 4147, 1, 428, 0)), (42, (.iand, 1, 0, 0, 0, 0, 0)), (43, (.iastore, 1, 0, 0, 0, 0, 0)), (44, (.aload_n 0, 1, 0, 0, 0, 0, 0)), (45, (.getfield 24, 3, 0, 5, 1, 79, 0)), (48, (.iload_n 3, 1, 3, 0, 0, 0, 0)), (49, (.iaload, 1, 0, 0, 0, 0, 0)), (50, (.iload 6, 2, 6, 0, 0, 0, 0)), (52, (.if_icmp .eq 7, 3, 59, 0, 0, 0, 0)), (55, (.iconst 1, 1, 0, 0, 0, 1, 0)), (56, (.goto 4, 3, 60, 0, 0, 0, 0)), (59, (.iconst 0, 1, 0, 0, 0, 0, 0)), (60, (.istore 7, 2, 7, 0, 0, 0, 0)), (62, (.iconst 0, 1, 0, 0, 0, 0, 0)), (63, (.istore 8, 2, 8, 0, 0, 0, 0))],
  [(65, (.iload 8, 2, 8, 0, 0, 0, 0)), (67, (.aload_n 1, 1, 1, 0, 0, 0, 0)), (68, (.getfield 54, 3, 4, 3, 0, 424, 0)), (71, (.if_icmp .ge 75, 3, 146, 0, 0, 0, 0)), (74, (.iload 8, 2, 8, 0, 0, 0, 0)), (76, (.iload_n 2, 1, 2, 0, 0, 0, 0)), (77, (.invokestatic 57, 3, 109, 34, 1, -3, 0)), (80, (.ifCond .eq 60, 3, 140, 0, 0, 0, 0)), (83, (.aload_n 0, 1, 0, 0, 0, 0, 0)), (84, (.getfield 21, 3, 0, 4, 1, 78, 0)), (87, (.iload 8, 2, 8, 0, 0, 0, 0)), (89, (.iaload, 1, 0, 0, 0, 0, 0)), (90, (.bipush (-4), 2, 0, 0, 0, (-4), 0)), (92, (.if_icmp .eq 6, 3, 98, 0, 0, 0, 0)), (95, (.goto 45, 3, 140, 0, 0, 0, 0))],
  [(98, (.aload_n 1, 1, 1, 0, 0, 0, 0)), (99, (.getfield 61, 3, 4, 15, 1, 425, 0)), (102, (.iload 8, 2, 8, 0, 0, 0, 0)), (104, (.iaload, 1, 0, 0, 0, 0, 0)), (105, (.iload 4, 2, 4, 0, 0, 0, 0)), (107, (.if_icmp .ne 15, 3, 122, 0, 0, 0, 0)), (110, (.aload_n 0, 1, 0, 0, 0, 0, 0)), (111, (.iload 8, 2, 8, 0, 0, 0, 0)), (113, (.invokevirtual 64, 3, 3, 50, 0, 434, 0)), (116, (.iconst 1, 1, 0, 0, 0, 1, 0)), (117, (.istore 7, 2, 7, 0, 0, 0, 0)), (119, (.goto 21, 3, 140, 0, 0, 0, 0)), (122, (.aload_n 0, 1, 0, 0, 0, 0, 0)), (123, (.aload_n 1, 1, 1, 0, 0, 0, 0)), (124, (.iload 8, 2, 8, 0, 0, 0, 0)), (126, (.iload_n 3, 1, 3, 0, 0, 0, 0)), (127, (.iload 4, 2, 4, 0, 0, 0, 0))],
  [(129, (.iload 5, 2, 5, 0, 0, 0, 0)), (131, (.invokevirtual 68, 3, 4, 198, 1, 438, 0)), (134, (.ifCond .eq 6, 3, 140, 0, 0, 0, 0)), (137, (.iconst 1, 1, 0, 0, 0, 1, 0)), (138, (.istore 7, 2, 7, 0, 0, 0, 0)), (140, (.iinc 8 1, 3, 8, 0, 0, 1, 0)), (143, (.goto (-78), 3, 65, 0, 0, 0, 0)), (146, (.aload_n 0, 1, 0, 0, 0, 0, 0)), (147, (.dup, 1, 0, 0, 0, 0, 0)), (148, (.getfield 27, 3, 0, 0, 0, 342, 0)), (151, (.iconst 1, 1, 0, 0, 0, 1, 0)), (152, (.iadd, 1, 0, 0, 0, 0, 0)), (153, (.putfield 27, 3, 0, 0, 0, 342, 0)), (156, (.iload 7, 2, 7, 0, 0, 0, 0)), (158, (.ireturn, 1, 0, 0, 1, 0, 0))]]
def tX0_frighten : List (List (Nat × E_)) := [[(0, (.aload_n 0, 1, 0, 0, 0, 0, 0)), (1, (.getfield 21, 3, 0, 4, 1, 78, 0)), (4, (.iload_n 1, 1, 1, 0, 0, 0, 0)), (5, (.aload_n 0, 1, 0, 0, 0, 0, 0)), (6, (.getfield 27, 3, 0, 0, 0, 342, 0)), (9, (.iastore, 1, 0, 0, 0, 0, 0)), (10, (.iconst 0, 1, 0, 0, 0, 0, 0)), (11, (.istore_n 2, 1, 2, 0, 0, 0, 0)), (12, (.iload_n 2, 1, 2, 0, 0, 0, 0)), (13, (.iconst 4, 1, 0, 0, 0, 4, 0)), (14, (.if_icmp .ge 32, 3, 46, 0, 0, 0, 0)), (17, (.aload_n 0, 1, 0, 0, 0, 0, 0)), (18, (.getfield 9, 3, 0, 1, 1, 75, 0)), (21, (.iload_n 1, 1, 1, 0, 0, 0, 0)), (22, (.iconst 4, 1, 0, 0, 0, 4, 0)), (23, (.imul, 1, 0, 0, 0, 0, 0)), (24, (.iload_n 2, 1, 2, 0, 0, 0, 0)), (25, (.iadd, 1, 0, 0, 0, 0, 0)), (26, (.bipush (-4), 2, 0, 0, 0, (-4), 0)), (28, (.iastore, 1, 0, 0, 0, 0, 0)), (29, (.aload_n 0, 1, 0, 0, 0, 0, 0)), (30, (.getfield 15, 3, 0, 2, 1, 76, 0))],
  [(33, (.iload_n 1, 1, 1, 0, 0, 0, 0)), (34, (.iconst 4, 1, 0, 0, 0, 4, 0)), (35, (.imul, 1, 0, 0, 0, 0, 0)), (36, (.iload_n 2, 1, 2, 0, 0, 0, 0)), (37, (.iadd, 1, 0, 0, 0, 0, 0)), (38, (.iconst 0, 1, 0, 0, 0, 0, 0)), (39, (.iastore, 1, 0, 0, 0, 0, 0)), (40, (.iinc 2 1, 3, 2, 0, 0, 1, 0)), (43, (.goto (-31), 3, 12, 0, 0, 0, 0)), (46, (.return_, 1, 0, 0, 0, 0, 0))]]
def tX0_look : List (List (Nat × E_)) := [[(0, (.iload_n 2, 1, 2, 0, 0, 0, 0)), (1, (.iconst 4, 1, 0, 0, 0, 4, 0)), (2, (.imul, 1, 0, 0, 0, 0, 0)), (3, (.iload_n 3, 1, 3, 0, 0, 0, 0)), (4, (.iadd, 1, 0, 0, 0, 0, 0)), (5, (.istore 6, 2, 6, 0, 0, 0, 0)), (7, (.aload_n 0, 1, 0, 0, 0, 0, 0)), (8, (.getfield 9, 3, 0, 1, 1, 75, 0)), (11, (.iload 6, 2, 6, 0, 0, 0, 0)), (13, (.iaload, 1, 0, 0, 0, 0, 0)), (14, (.istore 7, 2, 7, 0, 0, 0, 0)), (16, (.aload_n 0, 1, 0, 0, 0, 0, 0)), (17, (.getfield 15, 3, 0, 2, 1, 76, 0)), (20, (.iload 6, 2, 6, 0, 0, 0, 0)), (22, (.iaload, 1, 0, 0, 0, 0, 0)), (23, (.istore 8, 2, 8, 0, 0, 0, 0)), (25, (.aload_n 0, 1, 0, 0, 0, 0, 0)), (26, (.getfield 18, 3, 0, 3, 1, 77, 0)), (29, (.iload_n 2, 1, 2, 0, 0, 0, 0)), (30, (.iaload, 1, 0, 0, 0, 0, 0)), (31, (.istore 9, 2, 9, 0, 0, 0, 0))],
  [(33, (.aload_n 0, 1, 0, 0, 0, 0, 0)), (34, (.aload_n 1, 1, 1, 0, 0, 0, 0)), (35, (.iload_n 2, 1, 2, 0, 0, 0, 0)), (36, (.iload_n 3, 1, 3, 0, 0, 0, 0)), (37, (.invokevirtual 72, 3, 6, 116, 1, 444, 0)), (40, (.istore 10, 2, 10, 0, 0, 0, 0)), (42, (.aload_n 1, 1, 1, 0, 0, 0, 0)), (43, (.iload 10, 2, 10, 0, 0, 0, 0)), (45, (.invokevirtual 76, 3, 51, 4146, 1, 455, 0)), (48, (.istore 11, 2, 11, 0, 0, 0, 0)), (50, (.aload_n 1, 1, 1, 0, 0, 0, 0)), (51, (.getfield 80, 3, 4, 13, 1, 442, 0)), (54, (.iload_n 2, 1, 2, 0, 0, 0, 0)), (55, (.iaload, 1, 0, 0, 0, 0, 0)), (56, (.tableswitch 131 1 3 #[28, 63, 102], 28, 0, 0, 0, 0, 0))],
  [(84, (.aload_n 0, 1, 0, 0, 0, 0, 0)), (85, (.getfield 9, 3, 0, 1, 1, 75, 0)), (88, (.iload 6, 2, 6, 0, 0, 0, 0)), (90, (.aload_n 0, 1, 0, 0, 0, 0, 0)), (91, (.getfield 18, 3, 0, 3, 1, 77, 0)), (94, (.iload_n 2, 1, 2, 0, 0, 0, 0)), (95, (.iaload, 1, 0, 0, 0, 0, 0))],
  [(96, (.iload 10, 2, 10, 0, 0, 0, 0)), (98, (.invokestatic 57, 3, 109, 34, 1, -3, 0)), (101, (.ifCond .eq 12, 3, 113, 0, 0, 0, 0)), (104, (.aload_n 0, 1, 0, 0, 0, 0, 0)), (105, (.getfield 18, 3, 0, 3, 1, 77, 0)), (108, (.iload_n 2, 1, 2, 0, 0, 0, 0)), (109, (.iaload, 1, 0, 0, 0, 0, 0)), (110, (.goto 5, 3, 115, 0, 0, 0, 0)), (113, (.iload 11, 2, 11, 0, 0, 0, 0)), (115, (.iastore, 1, 0, 0, 0, 0, 0)), (116, (.goto 80, 3, 196, 0, 0, 0, 0)), (119, (.aload_n 0, 1, 0, 0, 0, 0, 0)), (120, (.getfield 9, 3, 0, 1, 1, 75, 0)), (123, (.iload 6, 2, 6, 0, 0, 0, 0)), (125, (.iload 11, 2, 11, 0, 0, 0, 0)), (127, (.bipush (-4), 2, 0, 0, 0, (-4), 0))],
  [(129, (.if_icmp .eq 23, 3, 152, 0, 0, 0, 0)), (132, (.iload 10, 2, 10, 0, 0, 0, 0)), (134, (.aload_n 1, 1, 1, 0, 0, 0, 0)), (135, (.getfield 83, 3, 4, 10, 1, 443, 0)), (138, (.iload 11, 2, 11, 0, 0, 0, 0)), (140, (.iaload, 1, 0, 0, 0, 0, 0)), (141, (.iconst (-1), 1, 0, 0, 0, (-1), 0)), (142, (.ixor, 1, 0, 0, 0, 0, 0)), (143, (.iand, 1, 0, 0, 0, 0, 0)), (144, (.ifCond .ne 8, 3, 152, 0, 0, 0, 0)), (147, (.iload 11, 2, 11, 0, 0, 0, 0)), (149, (.goto 5, 3, 154, 0, 0, 0, 0)), (152, (.bipush (-4), 2, 0, 0, 0, (-4), 0)), (154, (.iastore, 1, 0, 0, 0, 0, 0)), (155, (.goto 41, 3, 196, 0, 0, 0, 0)), (158, (.aload_n 0, 1, 0, 0, 0, 0, 0)), (159, (.iload 6, 2, 6, 0, 0, 0, 0))],
  [(161, (.iload 11, 2, 11, 0, 0, 0, 0)), (163, (.aload_n 0, 1, 0, 0, 0, 0, 0)), (164, (.getfield 9, 3, 0, 1, 1, 75, 0)), (167, (.iload 6, 2, 6, 0, 0, 0, 0)), (169, (.iaload, 1, 0, 0, 0, 0, 0)), (170, (.aload_n 1, 1, 1, 0, 0, 0, 0)), (171, (.iload 4, 2, 4, 0, 0, 0, 0)), (173, (.iload 5, 2, 5, 0, 0, 0, 0)), (175, (.invokevirtual 50, 3, 52, 4147, 1, 428, 0)), (178, (.invokestatic 57, 3, 109, 34, 1, -3, 0)), (181, (.invokevirtual 86, 3, 5, 84, 0, 459, 0)), (184, (.goto 12, 3, 196, 0, 0, 0, 0)), (187, (.aload_n 0, 1, 0, 0, 0, 0, 0)), (188, (.getfield 9, 3, 0, 1, 1, 75, 0)), (191, (.iload 6, 2, 6, 0, 0, 0, 0))],
  [(193, (.iload 11, 2, 11, 0, 0, 0, 0)), (195, (.iastore, 1, 0, 0, 0, 0, 0)), (196, (.aload_n 0, 1, 0, 0, 0, 0, 0)), (197, (.getfield 9, 3, 0, 1, 1, 75, 0)), (200, (.iload 6, 2, 6, 0, 0, 0, 0)), (202, (.iaload, 1, 0, 0, 0, 0, 0)), (203, (.bipush (-4), 2, 0, 0, 0, (-4), 0)), (205, (.if_icmp .eq 16, 3, 221, 0, 0, 0, 0)), (208, (.aload_n 0, 1, 0, 0, 0, 0, 0)), (209, (.getfield 18, 3, 0, 3, 1, 77, 0)), (212, (.iload_n 2, 1, 2, 0, 0, 0, 0)), (213, (.aload_n 0, 1, 0, 0, 0, 0, 0)), (214, (.getfield 9, 3, 0, 1, 1, 75, 0)), (217, (.iload 6, 2, 6, 0, 0, 0, 0)), (219, (.iaload, 1, 0, 0, 0, 0, 0)), (220, (.iastore, 1, 0, 0, 0, 0, 0)), (221, (.aload_n 0, 1, 0, 0, 0, 0, 0)), (222, (.getfield 9, 3, 0, 1, 1, 75, 0))],
  [(225, (.iload 6, 2, 6, 0, 0, 0, 0)), (227, (.iaload, 1, 0, 0, 0, 0, 0)), (228, (.iload 7, 2, 7, 0, 0, 0, 0)), (230, (.if_icmp .ne 26, 3, 256, 0, 0, 0, 0)), (233, (.aload_n 0, 1, 0, 0, 0, 0, 0)), (234, (.getfield 15, 3, 0, 2, 1, 76, 0)), (237, (.iload 6, 2, 6, 0, 0, 0, 0)), (239, (.iaload, 1, 0, 0, 0, 0, 0)), (240, (.iload 8, 2, 8, 0, 0, 0, 0)), (242, (.if_icmp .ne 14, 3, 256, 0, 0, 0, 0)), (245, (.aload_n 0, 1, 0, 0, 0, 0, 0)), (246, (.getfield 18, 3, 0, 3, 1, 77, 0)), (249, (.iload_n 2, 1, 2, 0, 0, 0, 0)), (250, (.iaload, 1, 0, 0, 0, 0, 0)), (251, (.iload 9, 2, 9, 0, 0, 0, 0)), (253, (.if_icmp .eq 7, 3, 260, 0, 0, 0, 0))],
  [(256, (.iconst 1, 1, 0, 0, 0, 1, 0)), (257, (.goto 4, 3, 261, 0, 0, 0, 0)), (260, (.iconst 0, 1, 0, 0, 0, 0, 0)), (261, (.ireturn, 1, 0, 0, 1, 0, 0))]]
def tX0_holdOrTurn : List (List (Nat × E_)) := [[(0, (.aload_n 0, 1, 0, 0, 0, 0, 0)), (1, (.getfield 9, 3, 0, 1, 1, 75, 0)), (4, (.iload_n 1, 1, 1, 0, 0, 0, 0)), (5, (.iaload, 1, 0, 0, 0, 0, 0)), (6, (.bipush (-4), 2, 0, 0, 0, (-4), 0)), (8, (.if_icmp .eq 7, 3, 15, 0, 0, 0, 0)), (11, (.iconst 1, 1, 0, 0, 0, 1, 0)), (12, (.goto 4, 3, 16, 0, 0, 0, 0)), (15, (.iconst 0, 1, 0, 0, 0, 0, 0)), (16, (.istore 4, 2, 4, 0, 0, 0, 0)), (18, (.iload 4, 2, 4, 0, 0, 0, 0)), (20, (.ifCond .eq 17, 3, 37, 0, 0, 0, 0)), (23, (.iload_n 3, 1, 3, 0, 0, 0, 0)), (24, (.ifCond .ne 13, 3, 37, 0, 0, 0, 0)), (27, (.aload_n 0, 1, 0, 0, 0, 0, 0)), (28, (.getfield 15, 3, 0, 2, 1, 76, 0)), (31, (.iload_n 1, 1, 1, 0, 0, 0, 0))],
  [(32, (.dup2, 1, 0, 0, 0, 0, 0)), (33, (.iaload, 1, 0, 0, 0, 0, 0)), (34, (.iconst 1, 1, 0, 0, 0, 1, 0)), (35, (.iadd, 1, 0, 0, 0, 0, 0)), (36, (.iastore, 1, 0, 0, 0, 0, 0)), (37, (.iload 4, 2, 4, 0, 0, 0, 0)), (39, (.ifCond .eq 13, 3, 52, 0, 0, 0, 0)), (42, (.aload_n 0, 1, 0, 0, 0, 0, 0)), (43, (.getfield 15, 3, 0, 2, 1, 76, 0)), (46, (.iload_n 1, 1, 1, 0, 0, 0, 0)), (47, (.iaload, 1, 0, 0, 0, 0, 0)), (48, (.iconst 2, 1, 0, 0, 0, 2, 0)), (49, (.if_icmp .lt 17, 3, 66, 0, 0, 0, 0)), (52, (.aload_n 0, 1, 0, 0, 0, 0, 0)), (53, (.getfield 9, 3, 0, 1, 1, 75, 0)), (56, (.iload_n 1, 1, 1, 0, 0, 0, 0)), (57, (.iload_n 2, 1, 2, 0, 0, 0, 0)), (58, (.iastore, 1, 0, 0, 0, 0, 0)), (59, (.aload_n 0, 1, 0, 0, 0, 0, 0)), (60, (.getfield 15, 3, 0, 2, 1, 76, 0)), (63, (.iload_n 1, 1, 1, 0, 0, 0, 0))],
  [(64, (.iconst 0, 1, 0, 0, 0, 0, 0)), (65, (.iastore, 1, 0, 0, 0, 0, 0)), (66, (.return_, 1, 0, 0, 0, 0, 0))]]
def tX0_choices : List (List (Nat × E_)) := [[(0, (.aload_n 0, 1, 0, 0, 0, 0, 0)), (1, (.getfield 24, 3, 0, 5, 1, 79, 0)), (4, (.iload_n 3, 1, 3, 0, 0, 0, 0)), (5, (.iaload, 1, 0, 0, 0, 0, 0)), (6, (.aload_n 1, 1, 1, 0, 0, 0, 0)), (7, (.getfield 90, 3, 4, 18, 1, 448, 0)), (10, (.iload_n 2, 1, 2, 0, 0, 0, 0)), (11, (.iaload, 1, 0, 0, 0, 0, 0)), (12, (.iand, 1, 0, 0, 0, 0, 0)), (13, (.istore 4, 2, 4, 0, 0, 0, 0)), (15, (.iconst 0, 1, 0, 0, 0, 0, 0)), (16, (.istore 5, 2, 5, 0, 0, 0, 0)), (18, (.iload 5, 2, 5, 0, 0, 0, 0)), (20, (.aload_n 1, 1, 1, 0, 0, 0, 0)), (21, (.getfield 93, 3, 4, 2, 0, 449, 0)), (24, (.if_icmp .ge 51, 3, 75, 0, 0, 0, 0)), (27, (.aload_n 1, 1, 1, 0, 0, 0, 0)), (28, (.getfield 96, 3, 4, 16, 1, 450, 0)), (31, (.iload_n 2, 1, 2, 0, 0, 0, 0))],
  [(32, (.baload, 1, 0, 0, 0, 0, 0)), (33, (.ifCond .eq 42, 3, 75, 0, 0, 0, 0)), (36, (.aload_n 0, 1, 0, 0, 0, 0, 0)), (37, (.iload_n 2, 1, 2, 0, 0, 0, 0)), (38, (.iload 5, 2, 5, 0, 0, 0, 0)), (40, (.invokevirtual 100, 3, 7, 67, 1, 451, 0)), (43, (.istore 6, 2, 6, 0, 0, 0, 0)), (45, (.iload 5, 2, 5, 0, 0, 0, 0)), (47, (.iload_n 3, 1, 3, 0, 0, 0, 0)), (48, (.if_icmp .eq 21, 3, 69, 0, 0, 0, 0)), (51, (.iload 6, 2, 6, 0, 0, 0, 0)), (53, (.bipush (-4), 2, 0, 0, 0, (-4), 0)), (55, (.if_icmp .eq 14, 3, 69, 0, 0, 0, 0)), (58, (.iload 4, 2, 4, 0, 0, 0, 0)), (60, (.iconst 1, 1, 0, 0, 0, 1, 0)), (61, (.iload 6, 2, 6, 0, 0, 0, 0)), (63, (.ishl, 1, 0, 0, 0, 0, 0))],
  [(64, (.iconst (-1), 1, 0, 0, 0, (-1), 0)), (65, (.ixor, 1, 0, 0, 0, 0, 0)), (66, (.iand, 1, 0, 0, 0, 0, 0)), (67, (.istore 4, 2, 4, 0, 0, 0, 0)), (69, (.iinc 5 1, 3, 5, 0, 0, 1, 0)), (72, (.goto (-54), 3, 18, 0, 0, 0, 0)), (75, (.iload 4, 2, 4, 0, 0, 0, 0)), (77, (.ireturn, 1, 0, 0, 0, 0, 0))]]
def tX0_thoughtOf : List (List (Nat × E_)) := [[(0, (.iload_n 1, 1, 1, 0, 0, 0, 0)), (1, (.iconst 4, 1, 0, 0, 0, 4, 0)), (2, (.imul, 1, 0, 0, 0, 0, 0)), (3, (.iload_n 2, 1, 2, 0, 0, 0, 0)), (4, (.iadd, 1, 0, 0, 0, 0, 0)), (5, (.istore_n 3, 1, 3, 0, 0, 0, 0)), (6, (.iload_n 3, 1, 3, 0, 0, 0, 0)), (7, (.ifCond .lt 18, 3, 25, 0, 0, 0, 0)), (10, (.iload_n 3, 1, 3, 0, 0, 0, 0)), (11, (.bipush 24, 2, 0, 0, 0, 24, 0)), (13, (.if_icmp .ge 12, 3, 25, 0, 0, 0, 0)), (16, (.aload_n 0, 1, 0, 0, 0, 0, 0)), (17, (.getfield 9, 3, 0, 1, 1, 75, 0)), (20, (.iload_n 3, 1, 3, 0, 0, 0, 0)), (21, (.iaload, 1, 0, 0, 0, 0, 0)), (22, (.goto 5, 3, 27, 0, 0, 0, 0)), (25, (.bipush (-4), 2, 0, 0, 0, (-4), 0)), (27, (.ireturn, 1, 0, 0, 0, 0, 0))]]
def tX0_isSame : List (List (Nat × E_)) := [[(0, (.aload_n 0, 1, 0, 0, 0, 0, 0)), (1, (.iload_n 2, 1, 2, 0, 0, 0, 0)), (2, (.iload_n 3, 1, 3, 0, 0, 0, 0)), (3, (.invokevirtual 100, 3, 7, 67, 1, 451, 0)), (6, (.aload_n 1, 1, 1, 0, 0, 0, 0)), (7, (.iload_n 3, 1, 3, 0, 0, 0, 0)), (8, (.invokevirtual 104, 3, 54, 4130, 1, 547, 0)), (11, (.invokestatic 57, 3, 109, 34, 1, -3, 0)), (14, (.ireturn, 1, 0, 0, 1, 0, 0))]]
def tX0_isSameForAll : List (List (Nat × E_)) := [[(0, (.iconst 0, 1, 0, 0, 0, 0, 0)), (1, (.istore 4, 2, 4, 0, 0, 0, 0)), (3, (.iload 4, 2, 4, 0, 0, 0, 0)), (5, (.aload_n 1, 1, 1, 0, 0, 0, 0)), (6, (.getfield 54, 3, 4, 3, 0, 424, 0)), (9, (.if_icmp .ge 31, 3, 40, 0, 0, 0, 0)), (12, (.iload 4, 2, 4, 0, 0, 0, 0)), (14, (.iload_n 2, 1, 2, 0, 0, 0, 0)), (15, (.invokestatic 57, 3, 109, 34, 1, -3, 0)), (18, (.ifCond .eq 16, 3, 34, 0, 0, 0, 0)), (21, (.aload_n 0, 1, 0, 0, 0, 0, 0)), (22, (.aload_n 1, 1, 1, 0, 0, 0, 0)), (23, (.iload 4, 2, 4, 0, 0, 0, 0)), (25, (.iload_n 3, 1, 3, 0, 0, 0, 0)), (26, (.invokevirtual 107, 3, 8, 68, 1, 584, 0)), (29, (.ifCond .ne 5, 3, 34, 0, 0, 0, 0))],
  [(32, (.iconst 0, 1, 0, 0, 0, 0, 0)), (33, (.ireturn, 1, 0, 0, 1, 0, 0)), (34, (.iinc 4 1, 3, 4, 0, 0, 1, 0)), (37, (.goto (-34), 3, 3, 0, 0, 0, 0)), (40, (.iconst 1, 1, 0, 0, 0, 1, 0)), (41, (.ireturn, 1, 0, 0, 1, 0, 0))]]
def tX0_chanceOfSame : List (List (Nat × E_)) := [[(0, (.iconst 0, 1, 0, 0, 0, 0, 0)), (1, (.istore_n 3, 1, 3, 0, 0, 0, 0)), (2, (.iconst 0, 1, 0, 0, 0, 0, 0)), (3, (.istore 4, 2, 4, 0, 0, 0, 0)), (5, (.iload 4, 2, 4, 0, 0, 0, 0)), (7, (.aload_n 1, 1, 1, 0, 0, 0, 0)), (8, (.getfield 54, 3, 4, 3, 0, 424, 0)), (11, (.if_icmp .ge 30, 3, 41, 0, 0, 0, 0)), (14, (.aload_n 0, 1, 0, 0, 0, 0, 0)), (15, (.aload_n 1, 1, 1, 0, 0, 0, 0)), (16, (.iload 4, 2, 4, 0, 0, 0, 0)), (18, (.iload_n 2, 1, 2, 0, 0, 0, 0)), (19, (.invokevirtual 107, 3, 8, 68, 1, 584, 0)), (22, (.ifCond .eq 13, 3, 35, 0, 0, 0, 0)), (25, (.iload_n 3, 1, 3, 0, 0, 0, 0)), (26, (.aload_n 1, 1, 1, 0, 0, 0, 0)), (27, (.getfield 111, 3, 4, 17, 1, 583, 0)), (30, (.iload 4, 2, 4, 0, 0, 0, 0))],
  [(32, (.iaload, 1, 0, 0, 0, 0, 0)), (33, (.iadd, 1, 0, 0, 0, 0, 0)), (34, (.istore_n 3, 1, 3, 0, 0, 0, 0)), (35, (.iinc 4 1, 3, 4, 0, 0, 1, 0)), (38, (.goto (-33), 3, 5, 0, 0, 0, 0)), (41, (.iload_n 3, 1, 3, 0, 0, 0, 0)), (42, (.ireturn, 1, 0, 0, 0, 0, 0))]]
def tX0_answerOf : List (List (Nat × E_)) := [[(0, (.aload_n 0, 1, 0, 0, 0, 0, 0)), (1, (.iload_n 2, 1, 2, 0, 0, 0, 0)), (2, (.iload_n 3, 1, 3, 0, 0, 0, 0)), (3, (.invokevirtual 100, 3, 7, 67, 1, 451, 0)), (6, (.istore 5, 2, 5, 0, 0, 0, 0)), (8, (.aload_n 1, 1, 1, 0, 0, 0, 0)), (9, (.iload 5, 2, 5, 0, 0, 0, 0)), (11, (.invokevirtual 114, 3, 44, 4130, 1, 570, 0)), (14, (.ifCond .ne 6, 3, 20, 0, 0, 0, 0)), (17, (.bipush (-4), 2, 0, 0, 0, (-4), 0)), (19, (.ireturn, 1, 0, 0, 0, 0, 0)), (20, (.iload 4, 2, 4, 0, 0, 0, 0)), (22, (.aload_n 1, 1, 1, 0, 0, 0, 0)), (23, (.getfield 117, 3, 4, 9, 1, 569, 0)), (26, (.iload 5, 2, 5, 0, 0, 0, 0)), (28, (.iaload, 1, 0, 0, 0, 0, 0)), (29, (.invokestatic 57, 3, 109, 34, 1, -3, 0))],
  [(32, (.ifCond .eq 7, 3, 39, 0, 0, 0, 0)), (35, (.iconst 1, 1, 0, 0, 0, 1, 0)), (36, (.goto 4, 3, 40, 0, 0, 0, 0)), (39, (.iconst 0, 1, 0, 0, 0, 0, 0)), (40, (.ireturn, 1, 0, 0, 0, 0, 0))]]
def tX1_empty : List (List (Nat × E_)) := [[(0, (.aload_n 0, 1, 0, 0, 0, 0, 0)), (1, (.iconst 0, 1, 0, 0, 0, 0, 0)), (2, (.putfield 28, 3, 1, 0, 0, 331, 0)), (5, (.aload_n 0, 1, 0, 0, 0, 0, 0)), (6, (.iconst 0, 1, 0, 0, 0, 0, 0)), (7, (.putfield 32, 3, 1, 5, 0, 332, 0)), (10, (.aload_n 0, 1, 0, 0, 0, 0, 0)), (11, (.aload_n 1, 1, 1, 0, 0, 0, 0)), (12, (.invokevirtual 35, 3, 50, 4113, 1, 334, 0)), (15, (.putfield 41, 3, 1, 4, 0, 333, 0)), (18, (.return_, 1, 0, 0, 0, 0, 0))]]
def tX1_become : List (List (Nat × E_)) := [[(0, (.aload_n 0, 1, 0, 0, 0, 0, 0)), (1, (.aload_n 1, 1, 1, 0, 0, 0, 0)), (2, (.getfield 28, 3, 1, 0, 0, 331, 0)), (5, (.putfield 28, 3, 1, 0, 0, 331, 0)), (8, (.aload_n 0, 1, 0, 0, 0, 0, 0)), (9, (.aload_n 1, 1, 1, 0, 0, 0, 0)), (10, (.getfield 41, 3, 1, 4, 0, 333, 0)), (13, (.putfield 41, 3, 1, 4, 0, 333, 0)), (16, (.aload_n 0, 1, 0, 0, 0, 0, 0)), (17, (.aload_n 1, 1, 1, 0, 0, 0, 0)), (18, (.getfield 32, 3, 1, 5, 0, 332, 0)), (21, (.putfield 32, 3, 1, 5, 0, 332, 0)), (24, (.aload_n 1, 1, 1, 0, 0, 0, 0)), (25, (.getfield 9, 3, 1, 1, 1, 66, 0)), (28, (.iconst 0, 1, 0, 0, 0, 0, 0)), (29, (.aload_n 0, 1, 0, 0, 0, 0, 0)), (30, (.getfield 9, 3, 1, 1, 1, 66, 0))],
  [(33, (.iconst 0, 1, 0, 0, 0, 0, 0)), (34, (.bipush 24, 2, 0, 0, 0, 24, 0)), (36, (.invokestatic 44, 3, 1000, 261, 0, 480, 0)), (39, (.aload_n 1, 1, 1, 0, 0, 0, 0)), (40, (.getfield 15, 3, 1, 2, 1, 67, 0)), (43, (.iconst 0, 1, 0, 0, 0, 0, 0)), (44, (.aload_n 0, 1, 0, 0, 0, 0, 0)), (45, (.getfield 15, 3, 1, 2, 1, 67, 0)), (48, (.iconst 0, 1, 0, 0, 0, 0, 0)), (49, (.bipush 24, 2, 0, 0, 0, 24, 0)), (51, (.invokestatic 44, 3, 1000, 261, 0, 480, 0)), (54, (.aload_n 1, 1, 1, 0, 0, 0, 0)), (55, (.getfield 22, 3, 1, 6, 1, 69, 0)), (58, (.iconst 0, 1, 0, 0, 0, 0, 0)), (59, (.aload_n 0, 1, 0, 0, 0, 0, 0)), (60, (.getfield 22, 3, 1, 6, 1, 69, 0)), (63, (.iconst 0, 1, 0, 0, 0, 0, 0))],
  [(64, (.bipush 12, 2, 0, 0, 0, 12, 0)), (66, (.invokestatic 44, 3, 1000, 261, 0, 480, 0)), (69, (.iconst 0, 1, 0, 0, 0, 0, 0)), (70, (.istore_n 2, 1, 2, 0, 0, 0, 0)), (71, (.iload_n 2, 1, 2, 0, 0, 0, 0)), (72, (.bipush 24, 2, 0, 0, 0, 24, 0)), (74, (.if_icmp .ge 21, 3, 95, 0, 0, 0, 0)), (77, (.aload_n 0, 1, 0, 0, 0, 0, 0)), (78, (.getfield 18, 3, 1, 3, 1, 68, 0)), (81, (.iload_n 2, 1, 2, 0, 0, 0, 0)), (82, (.aload_n 1, 1, 1, 0, 0, 0, 0)), (83, (.getfield 18, 3, 1, 3, 1, 68, 0)), (86, (.iload_n 2, 1, 2, 0, 0, 0, 0)), (87, (.baload, 1, 0, 0, 0, 0, 0)), (88, (.bastore, 1, 0, 0, 0, 0, 0)), (89, (.iinc 2 1, 3, 2, 0, 0, 1, 0)), (92, (.goto (-21), 3, 71, 0, 0, 0, 0)), (95, (.iconst 0, 1, 0, 0, 0, 0, 0))],
  [(96, (.istore_n 2, 1, 2, 0, 0, 0, 0)), (97, (.iload_n 2, 1, 2, 0, 0, 0, 0)), (98, (.bipush 12, 2, 0, 0, 0, 12, 0)), (100, (.if_icmp .ge 21, 3, 121, 0, 0, 0, 0)), (103, (.aload_n 0, 1, 0, 0, 0, 0, 0)), (104, (.getfield 25, 3, 1, 7, 1, 70, 0)), (107, (.iload_n 2, 1, 2, 0, 0, 0, 0)), (108, (.aload_n 1, 1, 1, 0, 0, 0, 0)), (109, (.getfield 25, 3, 1, 7, 1, 70, 0)), (112, (.iload_n 2, 1, 2, 0, 0, 0, 0)), (113, (.baload, 1, 0, 0, 0, 0, 0)), (114, (.bastore, 1, 0, 0, 0, 0, 0)), (115, (.iinc 2 1, 3, 2, 0, 0, 1, 0)), (118, (.goto (-21), 3, 97, 0, 0, 0, 0)), (121, (.return_, 1, 0, 0, 0, 0, 0))]]
def tX3_put : List (List (Nat × E_)) := [[(0, (.aload_n 0, 1, 0, 0, 0, 0, 0)), (1, (.getfield 15, 3, 3, 1, 0, 141, 0)), (4, (.ifCond .lt 33, 3, 37, 0, 0, 0, 0)), (7, (.aload_n 0, 1, 0, 0, 0, 0, 0)), (8, (.getfield 15, 3, 3, 1, 0, 141, 0)), (11, (.sipush 400, 3, 0, 0, 0, 400, 0)), (14, (.if_icmp .ge 23, 3, 37, 0, 0, 0, 0)), (17, (.aload_n 0, 1, 0, 0, 0, 0, 0)), (18, (.getfield 9, 3, 3, 0, 1, 41, 0)), (21, (.aload_n 0, 1, 0, 0, 0, 0, 0)), (22, (.getfield 15, 3, 3, 1, 0, 141, 0)), (25, (.iload_n 1, 1, 1, 0, 0, 0, 0)), (26, (.iastore, 1, 0, 0, 0, 0, 0)), (27, (.aload_n 0, 1, 0, 0, 0, 0, 0)), (28, (.dup, 1, 0, 0, 0, 0, 0)), (29, (.getfield 15, 3, 3, 1, 0, 141, 0))],
  [(32, (.iconst 1, 1, 0, 0, 0, 1, 0)), (33, (.iadd, 1, 0, 0, 0, 0, 0)), (34, (.putfield 15, 3, 3, 1, 0, 141, 0)), (37, (.return_, 1, 0, 0, 0, 0, 0))]]
def tX3_readInto : List (List (Nat × E_)) := [[(0, (.aload_n 1, 1, 1, 0, 0, 0, 0)), (1, (.invokevirtual 19, 3, 36, 4113, 0, 171, 0)), (4, (.aload_n 0, 1, 0, 0, 0, 0, 0)), (5, (.iconst 0, 1, 0, 0, 0, 0, 0)), (6, (.putfield 24, 3, 3, 2, 0, 166, 0)), (9, (.aload_n 0, 1, 0, 0, 0, 0, 0)), (10, (.iconst 0, 1, 0, 0, 0, 0, 0)), (11, (.putfield 27, 3, 3, 3, 0, 167, 0)), (14, (.aload_n 0, 1, 0, 0, 0, 0, 0)), (15, (.iconst 0, 1, 0, 0, 0, 0, 0)), (16, (.putfield 30, 3, 3, 4, 0, 168, 0)), (19, (.aload_n 0, 1, 0, 0, 0, 0, 0)), (20, (.iconst 0, 1, 0, 0, 0, 0, 0)), (21, (.putfield 33, 3, 3, 5, 0, 169, 0)), (24, (.aload_n 0, 1, 0, 0, 0, 0, 0)), (25, (.invokevirtual 36, 3, 25, 3089, 0, 179, 0)), (28, (.iconst 0, 1, 0, 0, 0, 0, 0)), (29, (.istore_n 2, 1, 2, 0, 0, 0, 0)), (30, (.iload_n 2, 1, 2, 0, 0, 0, 0)), (31, (.sipush 400, 3, 0, 0, 0, 400, 0))],
  [(34, (.if_icmp .ge 38, 3, 72, 0, 0, 0, 0)), (37, (.aload_n 0, 1, 0, 0, 0, 0, 0)), (38, (.getfield 24, 3, 3, 2, 0, 166, 0)), (41, (.ifCond .ne 31, 3, 72, 0, 0, 0, 0)), (44, (.aload_n 0, 1, 0, 0, 0, 0, 0)), (45, (.getfield 39, 3, 3, 6, 0, 170, 0)), (48, (.ifCond .eq 24, 3, 72, 0, 0, 0, 0)), (51, (.aload_n 0, 1, 0, 0, 0, 0, 0)), (52, (.aload_n 1, 1, 1, 0, 0, 0, 0)), (53, (.invokevirtual 42, 3, 27, 3122, 0, 197, 0)), (56, (.aload_n 0, 1, 0, 0, 0, 0, 0)), (57, (.dup, 1, 0, 0, 0, 0, 0)), (58, (.getfield 30, 3, 3, 4, 0, 168, 0)), (61, (.iconst 1, 1, 0, 0, 0, 1, 0)), (62, (.iadd, 1, 0, 0, 0, 0, 0)), (63, (.putfield 30, 3, 3, 4, 0, 168, 0))],
  [(66, (.iinc 2 1, 3, 2, 0, 0, 1, 0)), (69, (.goto (-39), 3, 30, 0, 0, 0, 0)), (72, (.aload_n 0, 1, 0, 0, 0, 0, 0)), (73, (.getfield 24, 3, 3, 2, 0, 166, 0)), (76, (.ifCond .ne 7, 3, 83, 0, 0, 0, 0)), (79, (.aload_n 1, 1, 1, 0, 0, 0, 0)), (80, (.invokevirtual 46, 3, 41, 4145, 0, 319, 0)), (83, (.aload_n 0, 1, 0, 0, 0, 0, 0)), (84, (.getfield 24, 3, 3, 2, 0, 166, 0)), (87, (.ifCond .ne 7, 3, 94, 0, 0, 0, 0)), (90, (.iconst 1, 1, 0, 0, 0, 1, 0)), (91, (.goto 4, 3, 95, 0, 0, 0, 0)), (94, (.iconst 0, 1, 0, 0, 0, 0, 0)), (95, (.ireturn, 1, 0, 0, 1, 0, 0))]]
def tX3_blame : List (List (Nat × E_)) := [[(0, (.aload_n 0, 1, 0, 0, 0, 0, 0)), (1, (.iload_n 1, 1, 1, 0, 0, 0, 0)), (2, (.putfield 24, 3, 3, 2, 0, 166, 0)), (5, (.aload_n 0, 1, 0, 0, 0, 0, 0)), (6, (.aload_n 0, 1, 0, 0, 0, 0, 0)), (7, (.getfield 49, 3, 3, 7, 0, 183, 0)), (10, (.putfield 27, 3, 3, 3, 0, 167, 0)), (13, (.return_, 1, 0, 0, 0, 0, 0))]]
def tX3_byteAt : List (List (Nat × E_)) := [[(0, (.iload_n 1, 1, 1, 0, 0, 0, 0)), (1, (.ifCond .lt 27, 3, 28, 0, 0, 0, 0)), (4, (.iload_n 1, 1, 1, 0, 0, 0, 0)), (5, (.aload_n 0, 1, 0, 0, 0, 0, 0)), (6, (.getfield 15, 3, 3, 1, 0, 141, 0)), (9, (.if_icmp .ge 19, 3, 28, 0, 0, 0, 0)), (12, (.iload_n 1, 1, 1, 0, 0, 0, 0)), (13, (.sipush 400, 3, 0, 0, 0, 400, 0)), (16, (.if_icmp .ge 12, 3, 28, 0, 0, 0, 0)), (19, (.aload_n 0, 1, 0, 0, 0, 0, 0)), (20, (.getfield 9, 3, 3, 0, 1, 41, 0)), (23, (.iload_n 1, 1, 1, 0, 0, 0, 0)), (24, (.iaload, 1, 0, 0, 0, 0, 0)), (25, (.goto 4, 3, 29, 0, 0, 0, 0)), (28, (.iconst 0, 1, 0, 0, 0, 0, 0)), (29, (.ireturn, 1, 0, 0, 0, 0, 0))]]
def tX3_tokenAt : List (List (Nat × E_)) := [[(0, (.aload_n 0, 1, 0, 0, 0, 0, 0)), (1, (.iload_n 1, 1, 1, 0, 0, 0, 0)), (2, (.invokevirtual 52, 3, 23, 3106, 1, 185, 0)), (5, (.istore_n 2, 1, 2, 0, 0, 0, 0)), (6, (.iload_n 1, 1, 1, 0, 0, 0, 0)), (7, (.aload_n 0, 1, 0, 0, 0, 0, 0)), (8, (.getfield 15, 3, 3, 1, 0, 141, 0)), (11, (.if_icmp .lt 5, 3, 16, 0, 0, 0, 0)), (14, (.iconst 0, 1, 0, 0, 0, 0, 0)), (15, (.ireturn, 1, 0, 0, 0, 0, 0)), (16, (.iload_n 2, 1, 2, 0, 0, 0, 0)), (17, (.bipush 97, 2, 0, 0, 0, 97, 0)), (19, (.if_icmp .lt 11, 3, 30, 0, 0, 0, 0)), (22, (.iload_n 2, 1, 2, 0, 0, 0, 0)), (23, (.bipush 122, 2, 0, 0, 0, 122, 0)), (25, (.if_icmp .gt 5, 3, 30, 0, 0, 0, 0)), (28, (.iconst 1, 1, 0, 0, 0, 1, 0)), (29, (.ireturn, 1, 0, 0, 0, 0, 0)), (30, (.iload_n 2, 1, 2, 0, 0, 0, 0)), (31, (.bipush 48, 2, 0, 0, 0, 48, 0))],
  [(33, (.if_icmp .lt 11, 3, 44, 0, 0, 0, 0)), (36, (.iload_n 2, 1, 2, 0, 0, 0, 0)), (37, (.bipush 57, 2, 0, 0, 0, 57, 0)), (39, (.if_icmp .gt 5, 3, 44, 0, 0, 0, 0)), (42, (.iconst 2, 1, 0, 0, 0, 2, 0)), (43, (.ireturn, 1, 0, 0, 0, 0, 0)), (44, (.iload_n 2, 1, 2, 0, 0, 0, 0)), (45, (.bipush 59, 2, 0, 0, 0, 59, 0)), (47, (.if_icmp .ne 7, 3, 54, 0, 0, 0, 0)), (50, (.iconst 3, 1, 0, 0, 0, 3, 0)), (51, (.goto 14, 3, 65, 0, 0, 0, 0)), (54, (.iload_n 2, 1, 2, 0, 0, 0, 0)), (55, (.bipush 45, 2, 0, 0, 0, 45, 0)), (57, (.if_icmp .ne 7, 3, 64, 0, 0, 0, 0)), (60, (.iconst 4, 1, 0, 0, 0, 4, 0)), (61, (.goto 4, 3, 65, 0, 0, 0, 0))],
  [(64, (.iconst 5, 1, 0, 0, 0, 5, 0)), (65, (.ireturn, 1, 0, 0, 0, 0, 0))]]
def tX3_nextToken : List (List (Nat × E_)) := [[(0, (.aload_n 0, 1, 0, 0, 0, 0, 0)), (1, (.getfield 33, 3, 3, 5, 0, 169, 0)), (4, (.aload_n 0, 1, 0, 0, 0, 0, 0)), (5, (.getfield 15, 3, 3, 1, 0, 141, 0)), (8, (.if_icmp .ge 29, 3, 37, 0, 0, 0, 0)), (11, (.aload_n 0, 1, 0, 0, 0, 0, 0)), (12, (.aload_n 0, 1, 0, 0, 0, 0, 0)), (13, (.getfield 33, 3, 3, 5, 0, 169, 0)), (16, (.invokevirtual 52, 3, 23, 3106, 1, 185, 0)), (19, (.bipush 32, 2, 0, 0, 0, 32, 0)), (21, (.if_icmp .ne 16, 3, 37, 0, 0, 0, 0)), (24, (.aload_n 0, 1, 0, 0, 0, 0, 0)), (25, (.dup, 1, 0, 0, 0, 0, 0)), (26, (.getfield 33, 3, 3, 5, 0, 169, 0)), (29, (.iconst 1, 1, 0, 0, 0, 1, 0)), (30, (.iadd, 1, 0, 0, 0, 0, 0)), (31, (.putfield 33, 3, 3, 5, 0, 169, 0))],
  [(34, (.goto (-34), 3, 0, 0, 0, 0, 0)), (37, (.aload_n 0, 1, 0, 0, 0, 0, 0)), (38, (.aload_n 0, 1, 0, 0, 0, 0, 0)), (39, (.getfield 33, 3, 3, 5, 0, 169, 0)), (42, (.putfield 49, 3, 3, 7, 0, 183, 0)), (45, (.aload_n 0, 1, 0, 0, 0, 0, 0)), (46, (.aload_n 0, 1, 0, 0, 0, 0, 0)), (47, (.aload_n 0, 1, 0, 0, 0, 0, 0)), (48, (.getfield 33, 3, 3, 5, 0, 169, 0)), (51, (.invokevirtual 56, 3, 24, 3122, 1, 189, 0)), (54, (.putfield 39, 3, 3, 6, 0, 170, 0)), (57, (.aload_n 0, 1, 0, 0, 0, 0, 0)), (58, (.getfield 39, 3, 3, 6, 0, 170, 0)), (61, (.ifCond .eq 13, 3, 74, 0, 0, 0, 0))],
  [(64, (.aload_n 0, 1, 0, 0, 0, 0, 0)), (65, (.dup, 1, 0, 0, 0, 0, 0)), (66, (.getfield 33, 3, 3, 5, 0, 169, 0)), (69, (.iconst 1, 1, 0, 0, 0, 1, 0)), (70, (.iadd, 1, 0, 0, 0, 0, 0)), (71, (.putfield 33, 3, 3, 5, 0, 169, 0)), (74, (.aload_n 0, 1, 0, 0, 0, 0, 0)), (75, (.getfield 33, 3, 3, 5, 0, 169, 0)), (78, (.aload_n 0, 1, 0, 0, 0, 0, 0)), (79, (.getfield 15, 3, 3, 1, 0, 141, 0)), (82, (.if_icmp .ge 47, 3, 129, 0, 0, 0, 0)), (85, (.aload_n 0, 1, 0, 0, 0, 0, 0)), (86, (.getfield 39, 3, 3, 6, 0, 170, 0)), (89, (.iconst 1, 1, 0, 0, 0, 1, 0)), (90, (.if_icmp .eq 11, 3, 101, 0, 0, 0, 0)), (93, (.aload_n 0, 1, 0, 0, 0, 0, 0)), (94, (.getfield 39, 3, 3, 6, 0, 170, 0))],
  [(97, (.iconst 2, 1, 0, 0, 0, 2, 0)), (98, (.if_icmp .ne 31, 3, 129, 0, 0, 0, 0)), (101, (.aload_n 0, 1, 0, 0, 0, 0, 0)), (102, (.aload_n 0, 1, 0, 0, 0, 0, 0)), (103, (.getfield 33, 3, 3, 5, 0, 169, 0)), (106, (.invokevirtual 56, 3, 24, 3122, 1, 189, 0)), (109, (.aload_n 0, 1, 0, 0, 0, 0, 0)), (110, (.getfield 39, 3, 3, 6, 0, 170, 0)), (113, (.if_icmp .ne 16, 3, 129, 0, 0, 0, 0)), (116, (.aload_n 0, 1, 0, 0, 0, 0, 0)), (117, (.dup, 1, 0, 0, 0, 0, 0)), (118, (.getfield 33, 3, 3, 5, 0, 169, 0)), (121, (.iconst 1, 1, 0, 0, 0, 1, 0)), (122, (.iadd, 1, 0, 0, 0, 0, 0)), (123, (.putfield 33, 3, 3, 5, 0, 169, 0)), (126, (.goto (-52), 3, 74, 0, 0, 0, 0))],
  [(129, (.aload_n 0, 1, 0, 0, 0, 0, 0)), (130, (.aload_n 0, 1, 0, 0, 0, 0, 0)), (131, (.getfield 33, 3, 3, 5, 0, 169, 0)), (134, (.putfield 59, 3, 3, 8, 0, 184, 0)), (137, (.aload_n 0, 1, 0, 0, 0, 0, 0)), (138, (.getfield 39, 3, 3, 6, 0, 170, 0)), (141, (.iconst 5, 1, 0, 0, 0, 5, 0)), (142, (.if_icmp .eq 24, 3, 166, 0, 0, 0, 0)), (145, (.aload_n 0, 1, 0, 0, 0, 0, 0)), (146, (.getfield 39, 3, 3, 6, 0, 170, 0)), (149, (.iconst 2, 1, 0, 0, 0, 2, 0)), (150, (.if_icmp .ne 21, 3, 171, 0, 0, 0, 0)), (153, (.aload_n 0, 1, 0, 0, 0, 0, 0)), (154, (.getfield 59, 3, 3, 8, 0, 184, 0)), (157, (.aload_n 0, 1, 0, 0, 0, 0, 0)), (158, (.getfield 49, 3, 3, 7, 0, 183, 0))],
  [(161, (.isub, 1, 0, 0, 0, 0, 0)), (162, (.iconst 2, 1, 0, 0, 0, 2, 0)), (163, (.if_icmp .le 8, 3, 171, 0, 0, 0, 0)), (166, (.aload_n 0, 1, 0, 0, 0, 0, 0)), (167, (.iconst 1, 1, 0, 0, 0, 1, 0)), (168, (.invokevirtual 62, 3, 22, 3106, 0, 193, 0)), (171, (.return_, 1, 0, 0, 0, 0, 0))]]
def tX3_isNamed : List (List (Nat × E_)) := [[(0, (.aload_n 0, 1, 0, 0, 0, 0, 0)), (1, (.getfield 39, 3, 3, 6, 0, 170, 0)), (4, (.iconst 1, 1, 0, 0, 0, 1, 0)), (5, (.if_icmp .ne 19, 3, 24, 0, 0, 0, 0)), (8, (.aload_n 1, 1, 1, 0, 0, 0, 0)), (9, (.invokevirtual 66, 3, 1003, 9233, 1, 209, 0)), (12, (.aload_n 0, 1, 0, 0, 0, 0, 0)), (13, (.getfield 59, 3, 3, 8, 0, 184, 0)), (16, (.aload_n 0, 1, 0, 0, 0, 0, 0)), (17, (.getfield 49, 3, 3, 7, 0, 183, 0)), (20, (.isub, 1, 0, 0, 0, 0, 0)), (21, (.if_icmp .eq 5, 3, 26, 0, 0, 0, 0)), (24, (.iconst 0, 1, 0, 0, 0, 0, 0)), (25, (.ireturn, 1, 0, 0, 1, 0, 0)), (26, (.iconst 0, 1, 0, 0, 0, 0, 0)), (27, (.istore_n 2, 1, 2, 0, 0, 0, 0)), (28, (.iload_n 2, 1, 2, 0, 0, 0, 0)), (29, (.aload_n 1, 1, 1, 0, 0, 0, 0)), (30, (.invokevirtual 66, 3, 1003, 9233, 1, 209, 0))],
  [(33, (.if_icmp .ge 29, 3, 62, 0, 0, 0, 0)), (36, (.aload_n 1, 1, 1, 0, 0, 0, 0)), (37, (.iload_n 2, 1, 2, 0, 0, 0, 0)), (38, (.invokevirtual 71, 3, 1004, 9250, 1, 221, 0)), (41, (.aload_n 0, 1, 0, 0, 0, 0, 0)), (42, (.aload_n 0, 1, 0, 0, 0, 0, 0)), (43, (.getfield 49, 3, 3, 7, 0, 183, 0)), (46, (.iload_n 2, 1, 2, 0, 0, 0, 0)), (47, (.iadd, 1, 0, 0, 0, 0, 0)), (48, (.invokevirtual 52, 3, 23, 3106, 1, 185, 0)), (51, (.if_icmp .eq 5, 3, 56, 0, 0, 0, 0)), (54, (.iconst 0, 1, 0, 0, 0, 0, 0)), (55, (.ireturn, 1, 0, 0, 1, 0, 0)), (56, (.iinc 2 1, 3, 2, 0, 0, 1, 0)), (59, (.goto (-31), 3, 28, 0, 0, 0, 0)), (62, (.iconst 1, 1, 0, 0, 0, 1, 0)), (63, (.ireturn, 1, 0, 0, 1, 0, 0))]]
def tX3_readLine : List (List (Nat × E_)) := [[(0, (.aload_n 0, 1, 0, 0, 0, 0, 0)), (1, (.invokevirtual 75, 3, 28, 3089, 1, 201, 0)), (4, (.istore_n 2, 1, 2, 0, 0, 0, 0)), (5, (.aload_n 0, 1, 0, 0, 0, 0, 0)), (6, (.ldc 78, 2, 0, 0, 1, 0, 0)), (8, (.invokevirtual 80, 3, 26, 3122, 1, 205, 0)), (11, (.ifCond .eq 11, 3, 22, 0, 0, 0, 0)), (14, (.aload_n 0, 1, 0, 0, 0, 0, 0)), (15, (.aload_n 1, 1, 1, 0, 0, 0, 0)), (16, (.invokevirtual 84, 3, 29, 3106, 0, 258, 0)), (19, (.goto 57, 3, 76, 0, 0, 0, 0)), (22, (.aload_n 0, 1, 0, 0, 0, 0, 0)), (23, (.ldc 87, 2, 1, 0, 1, 0, 0)), (25, (.invokevirtual 80, 3, 26, 3122, 1, 205, 0)), (28, (.ifCond .eq 11, 3, 39, 0, 0, 0, 0)), (31, (.aload_n 0, 1, 0, 0, 0, 0, 0))],
  [(32, (.aload_n 1, 1, 1, 0, 0, 0, 0)), (33, (.invokevirtual 89, 3, 30, 3138, 0, 273, 0)), (36, (.goto 40, 3, 76, 0, 0, 0, 0)), (39, (.aload_n 0, 1, 0, 0, 0, 0, 0)), (40, (.ldc 92, 2, 2, 0, 1, 0, 0)), (42, (.invokevirtual 80, 3, 26, 3122, 1, 205, 0)), (45, (.ifCond .eq 11, 3, 56, 0, 0, 0, 0)), (48, (.aload_n 0, 1, 0, 0, 0, 0, 0)), (49, (.aload_n 1, 1, 1, 0, 0, 0, 0)), (50, (.invokevirtual 94, 3, 31, 3106, 0, 289, 0)), (53, (.goto 23, 3, 76, 0, 0, 0, 0)), (56, (.iload_n 2, 1, 2, 0, 0, 0, 0)), (57, (.bipush (-4), 2, 0, 0, 0, (-4), 0)), (59, (.if_icmp .eq 12, 3, 71, 0, 0, 0, 0)), (62, (.aload_n 0, 1, 0, 0, 0, 0, 0)), (63, (.aload_n 1, 1, 1, 0, 0, 0, 0))],
  [(64, (.iload_n 2, 1, 2, 0, 0, 0, 0)), (65, (.invokevirtual 97, 3, 32, 3187, 0, 302, 0)), (68, (.goto 8, 3, 76, 0, 0, 0, 0)), (71, (.aload_n 0, 1, 0, 0, 0, 0, 0)), (72, (.iconst 2, 1, 0, 0, 0, 2, 0)), (73, (.invokevirtual 62, 3, 22, 3106, 0, 193, 0)), (76, (.aload_n 0, 1, 0, 0, 0, 0, 0)), (77, (.getfield 24, 3, 3, 2, 0, 166, 0)), (80, (.ifCond .ne 16, 3, 96, 0, 0, 0, 0)), (83, (.aload_n 0, 1, 0, 0, 0, 0, 0)), (84, (.getfield 39, 3, 3, 6, 0, 170, 0)), (87, (.iconst 3, 1, 0, 0, 0, 3, 0)), (88, (.if_icmp .eq 8, 3, 96, 0, 0, 0, 0)), (91, (.aload_n 0, 1, 0, 0, 0, 0, 0)), (92, (.iconst 2, 1, 0, 0, 0, 2, 0)), (93, (.invokevirtual 62, 3, 22, 3106, 0, 193, 0))],
  [(96, (.aload_n 0, 1, 0, 0, 0, 0, 0)), (97, (.getfield 24, 3, 3, 2, 0, 166, 0)), (100, (.ifCond .ne 7, 3, 107, 0, 0, 0, 0)), (103, (.aload_n 0, 1, 0, 0, 0, 0, 0)), (104, (.invokevirtual 36, 3, 25, 3089, 0, 179, 0)), (107, (.return_, 1, 0, 0, 0, 0, 0))]]
def tX3_sortNamed : List (List (Nat × E_)) := [[(0, (.aload_n 0, 1, 0, 0, 0, 0, 0)), (1, (.ldc 101, 2, 3, 0, 1, 0, 0)), (3, (.invokevirtual 80, 3, 26, 3122, 1, 205, 0)), (6, (.ifCond .eq 7, 3, 13, 0, 0, 0, 0)), (9, (.iconst 0, 1, 0, 0, 0, 0, 0)), (10, (.goto 44, 3, 54, 0, 0, 0, 0)), (13, (.aload_n 0, 1, 0, 0, 0, 0, 0)), (14, (.ldc 103, 2, 4, 0, 1, 0, 0)), (16, (.invokevirtual 80, 3, 26, 3122, 1, 205, 0)), (19, (.ifCond .eq 7, 3, 26, 0, 0, 0, 0)), (22, (.iconst 1, 1, 0, 0, 0, 1, 0)), (23, (.goto 31, 3, 54, 0, 0, 0, 0)), (26, (.aload_n 0, 1, 0, 0, 0, 0, 0)), (27, (.ldc 105, 2, 5, 0, 1, 0, 0)), (29, (.invokevirtual 80, 3, 26, 3122, 1, 205, 0))],
  [(32, (.ifCond .eq 7, 3, 39, 0, 0, 0, 0)), (35, (.iconst 2, 1, 0, 0, 0, 2, 0)), (36, (.goto 18, 3, 54, 0, 0, 0, 0)), (39, (.aload_n 0, 1, 0, 0, 0, 0, 0)), (40, (.ldc 107, 2, 6, 0, 1, 0, 0)), (42, (.invokevirtual 80, 3, 26, 3122, 1, 205, 0)), (45, (.ifCond .eq 7, 3, 52, 0, 0, 0, 0)), (48, (.iconst 3, 1, 0, 0, 0, 3, 0)), (49, (.goto 5, 3, 54, 0, 0, 0, 0)), (52, (.bipush (-4), 2, 0, 0, 0, (-4), 0)), (54, (.ireturn, 1, 0, 0, 0, 0, 0))]]
def tX3_readThing : List (List (Nat × E_)) := [[(0, (.aload_n 1, 1, 1, 0, 0, 0, 0)), (1, (.getfield 109, 3, 4, 0, 0, 262, 0)), (4, (.bipush 8, 2, 0, 0, 0, 8, 0)), (6, (.if_icmp .lt 9, 3, 15, 0, 0, 0, 0)), (9, (.aload_n 0, 1, 0, 0, 0, 0, 0)), (10, (.iconst 5, 1, 0, 0, 0, 5, 0)), (11, (.invokevirtual 62, 3, 22, 3106, 0, 193, 0)), (14, (.return_, 1, 0, 0, 0, 0, 0)), (15, (.aload_n 0, 1, 0, 0, 0, 0, 0)), (16, (.invokevirtual 36, 3, 25, 3089, 0, 179, 0)), (19, (.aload_n 1, 1, 1, 0, 0, 0, 0)), (20, (.aload_n 0, 1, 0, 0, 0, 0, 0)), (21, (.iconst 0, 1, 0, 0, 0, 0, 0)), (22, (.invokevirtual 112, 3, 34, 3154, 1, 263, 0)), (25, (.invokevirtual 115, 3, 37, 4130, 0, 269, 0)), (28, (.return_, 1, 0, 0, 0, 0, 0))]]
def tX3_readMeaning : List (List (Nat × E_)) := [[(0, (.aload_n 1, 1, 1, 0, 0, 0, 0)), (1, (.getfield 118, 3, 4, 1, 0, 277, 0)), (4, (.bipush 12, 2, 0, 0, 0, 12, 0)), (6, (.if_icmp .lt 9, 3, 15, 0, 0, 0, 0)), (9, (.aload_n 0, 1, 0, 0, 0, 0, 0)), (10, (.iconst 5, 1, 0, 0, 0, 5, 0)), (11, (.invokevirtual 62, 3, 22, 3106, 0, 193, 0)), (14, (.return_, 1, 0, 0, 0, 0, 0)), (15, (.aload_n 0, 1, 0, 0, 0, 0, 0)), (16, (.invokevirtual 36, 3, 25, 3089, 0, 179, 0)), (19, (.aload_n 0, 1, 0, 0, 0, 0, 0)), (20, (.iconst 0, 1, 0, 0, 0, 0, 0)), (21, (.invokevirtual 112, 3, 34, 3154, 1, 263, 0)), (24, (.istore_n 2, 1, 2, 0, 0, 0, 0)), (25, (.iconst 0, 1, 0, 0, 0, 0, 0)), (26, (.istore_n 3, 1, 3, 0, 0, 0, 0)), (27, (.aload_n 0, 1, 0, 0, 0, 0, 0)), (28, (.getfield 24, 3, 3, 2, 0, 166, 0)), (31, (.ifCond .ne 22, 3, 53, 0, 0, 0, 0))],
  [(34, (.aload_n 0, 1, 0, 0, 0, 0, 0)), (35, (.ldc 121, 2, 7, 0, 1, 0, 0)), (37, (.invokevirtual 80, 3, 26, 3122, 1, 205, 0)), (40, (.ifCond .eq 13, 3, 53, 0, 0, 0, 0)), (43, (.aload_n 0, 1, 0, 0, 0, 0, 0)), (44, (.invokevirtual 36, 3, 25, 3089, 0, 179, 0)), (47, (.aload_n 0, 1, 0, 0, 0, 0, 0)), (48, (.iload_n 2, 1, 2, 0, 0, 0, 0)), (49, (.invokevirtual 112, 3, 34, 3154, 1, 263, 0)), (52, (.istore_n 3, 1, 3, 0, 0, 0, 0)), (53, (.aload_n 1, 1, 1, 0, 0, 0, 0)), (54, (.iload_n 2, 1, 2, 0, 0, 0, 0)), (55, (.iload_n 3, 1, 3, 0, 0, 0, 0)), (56, (.invokevirtual 123, 3, 38, 4147, 0, 278, 0)), (59, (.return_, 1, 0, 0, 0, 0, 0))]]
def tX3_readWord : List (List (Nat × E_)) := [[(0, (.aload_n 1, 1, 1, 0, 0, 0, 0)), (1, (.getfield 127, 3, 4, 2, 0, 293, 0)), (4, (.iconst 4, 1, 0, 0, 0, 4, 0)), (5, (.if_icmp .lt 9, 3, 14, 0, 0, 0, 0)), (8, (.aload_n 0, 1, 0, 0, 0, 0, 0)), (9, (.iconst 5, 1, 0, 0, 0, 5, 0)), (10, (.invokevirtual 62, 3, 22, 3106, 0, 193, 0)), (13, (.return_, 1, 0, 0, 0, 0, 0)), (14, (.aload_n 0, 1, 0, 0, 0, 0, 0)), (15, (.invokevirtual 36, 3, 25, 3089, 0, 179, 0)), (18, (.aload_n 1, 1, 1, 0, 0, 0, 0)), (19, (.aload_n 0, 1, 0, 0, 0, 0, 0)), (20, (.aload_n 1, 1, 1, 0, 0, 0, 0)), (21, (.getfield 118, 3, 4, 1, 0, 277, 0)), (24, (.invokevirtual 130, 3, 35, 3138, 1, 294, 0)), (27, (.invokevirtual 133, 3, 39, 4130, 0, 298, 0)), (30, (.return_, 1, 0, 0, 0, 0, 0))]]
def tX3_readKind : List (List (Nat × E_)) := [[(0, (.aload_n 1, 1, 1, 0, 0, 0, 0)), (1, (.getfield 136, 3, 4, 3, 0, 306, 0)), (4, (.bipush 6, 2, 0, 0, 0, 6, 0)), (6, (.if_icmp .lt 9, 3, 15, 0, 0, 0, 0)), (9, (.aload_n 0, 1, 0, 0, 0, 0, 0)), (10, (.iconst 5, 1, 0, 0, 0, 5, 0)), (11, (.invokevirtual 62, 3, 22, 3106, 0, 193, 0)), (14, (.return_, 1, 0, 0, 0, 0, 0)), (15, (.aload_n 1, 1, 1, 0, 0, 0, 0)), (16, (.getfield 136, 3, 4, 3, 0, 306, 0)), (19, (.istore_n 3, 1, 3, 0, 0, 0, 0)), (20, (.aload_n 1, 1, 1, 0, 0, 0, 0)), (21, (.iload_n 2, 1, 2, 0, 0, 0, 0)), (22, (.invokevirtual 139, 3, 40, 4130, 0, 311, 0)), (25, (.aload_n 0, 1, 0, 0, 0, 0, 0)), (26, (.invokevirtual 36, 3, 25, 3089, 0, 179, 0)), (29, (.iconst 0, 1, 0, 0, 0, 0, 0)), (30, (.istore 4, 2, 4, 0, 0, 0, 0))],
  [(32, (.iconst 0, 1, 0, 0, 0, 0, 0)), (33, (.istore 5, 2, 5, 0, 0, 0, 0)), (35, (.iload 5, 2, 5, 0, 0, 0, 0)), (37, (.sipush 400, 3, 0, 0, 0, 400, 0)), (40, (.if_icmp .ge 148, 3, 188, 0, 0, 0, 0)), (43, (.aload_n 0, 1, 0, 0, 0, 0, 0)), (44, (.getfield 24, 3, 3, 2, 0, 166, 0)), (47, (.ifCond .ne 141, 3, 188, 0, 0, 0, 0)), (50, (.aload_n 0, 1, 0, 0, 0, 0, 0)), (51, (.getfield 39, 3, 3, 6, 0, 170, 0)), (54, (.iconst 1, 1, 0, 0, 0, 1, 0)), (55, (.if_icmp .ne 133, 3, 188, 0, 0, 0, 0)), (58, (.aload_n 0, 1, 0, 0, 0, 0, 0)), (59, (.invokevirtual 142, 3, 33, 3089, 1, 315, 0)), (62, (.istore 6, 2, 6, 0, 0, 0, 0))],
  [(64, (.iload 6, 2, 6, 0, 0, 0, 0)), (66, (.bipush (-4), 2, 0, 0, 0, (-4), 0)), (68, (.if_icmp .eq 13, 3, 81, 0, 0, 0, 0)), (71, (.iload 6, 2, 6, 0, 0, 0, 0)), (73, (.iload 4, 2, 4, 0, 0, 0, 0)), (75, (.invokestatic 145, 3, 109, 34, 1, -1, 0)), (78, (.ifCond .eq 20, 3, 98, 0, 0, 0, 0)), (81, (.aload_n 0, 1, 0, 0, 0, 0, 0)), (82, (.iload 6, 2, 6, 0, 0, 0, 0)), (84, (.bipush (-4), 2, 0, 0, 0, (-4), 0)), (86, (.if_icmp .ne 7, 3, 93, 0, 0, 0, 0)), (89, (.iconst 2, 1, 0, 0, 0, 2, 0)), (90, (.goto 4, 3, 94, 0, 0, 0, 0)), (93, (.iconst 4, 1, 0, 0, 0, 4, 0)), (94, (.invokevirtual 62, 3, 22, 3106, 0, 193, 0))],
  [(97, (.return_, 1, 0, 0, 0, 0, 0)), (98, (.iload 4, 2, 4, 0, 0, 0, 0)), (100, (.iconst 1, 1, 0, 0, 0, 1, 0)), (101, (.iload 6, 2, 6, 0, 0, 0, 0)), (103, (.ishl, 1, 0, 0, 0, 0, 0)), (104, (.ior, 1, 0, 0, 0, 0, 0)), (105, (.istore 4, 2, 4, 0, 0, 0, 0)), (107, (.aload_n 0, 1, 0, 0, 0, 0, 0)), (108, (.invokevirtual 36, 3, 25, 3089, 0, 179, 0)), (111, (.iload 6, 2, 6, 0, 0, 0, 0)), (113, (.iconst 1, 1, 0, 0, 0, 1, 0)), (114, (.if_icmp .ne 17, 3, 131, 0, 0, 0, 0)), (117, (.aload_n 1, 1, 1, 0, 0, 0, 0)), (118, (.getfield 149, 3, 4, 14, 1, 307, 0)), (121, (.iload_n 3, 1, 3, 0, 0, 0, 0)), (122, (.aload_n 0, 1, 0, 0, 0, 0, 0)), (123, (.iconst 0, 1, 0, 0, 0, 0, 0)), (124, (.invokevirtual 112, 3, 34, 3154, 1, 263, 0)), (127, (.iastore, 1, 0, 0, 0, 0, 0))],
  [(128, (.goto 54, 3, 182, 0, 0, 0, 0)), (131, (.iload 6, 2, 6, 0, 0, 0, 0)), (133, (.iconst 2, 1, 0, 0, 0, 2, 0)), (134, (.if_icmp .ne 20, 3, 154, 0, 0, 0, 0)), (137, (.aload_n 1, 1, 1, 0, 0, 0, 0)), (138, (.getfield 152, 3, 4, 15, 1, 308, 0)), (141, (.iload_n 3, 1, 3, 0, 0, 0, 0)), (142, (.aload_n 0, 1, 0, 0, 0, 0, 0)), (143, (.aload_n 1, 1, 1, 0, 0, 0, 0)), (144, (.getfield 109, 3, 4, 0, 0, 262, 0)), (147, (.invokevirtual 130, 3, 35, 3138, 1, 294, 0)), (150, (.iastore, 1, 0, 0, 0, 0, 0)), (151, (.goto 31, 3, 182, 0, 0, 0, 0)), (154, (.iload 6, 2, 6, 0, 0, 0, 0)), (156, (.iconst 4, 1, 0, 0, 0, 4, 0)), (157, (.if_icmp .ne 18, 3, 175, 0, 0, 0, 0))],
  [(160, (.aload_n 1, 1, 1, 0, 0, 0, 0)), (161, (.getfield 155, 3, 4, 17, 1, 309, 0)), (164, (.iload_n 3, 1, 3, 0, 0, 0, 0)), (165, (.aload_n 0, 1, 0, 0, 0, 0, 0)), (166, (.bipush 10, 2, 0, 0, 0, 10, 0)), (168, (.invokevirtual 130, 3, 35, 3138, 1, 294, 0)), (171, (.iastore, 1, 0, 0, 0, 0, 0)), (172, (.goto 10, 3, 182, 0, 0, 0, 0)), (175, (.aload_n 1, 1, 1, 0, 0, 0, 0)), (176, (.getfield 158, 3, 4, 16, 1, 310, 0)), (179, (.iload_n 3, 1, 3, 0, 0, 0, 0)), (180, (.iconst 1, 1, 0, 0, 0, 1, 0)), (181, (.bastore, 1, 0, 0, 0, 0, 0)), (182, (.iinc 5 1, 3, 5, 0, 0, 1, 0)), (185, (.goto (-150), 3, 35, 0, 0, 0, 0)), (188, (.return_, 1, 0, 0, 0, 0, 0))]]
def tX3_withNamed : List (List (Nat × E_)) := [[(0, (.aload_n 0, 1, 0, 0, 0, 0, 0)), (1, (.ldc 162, 2, 8, 0, 1, 0, 0)), (3, (.invokevirtual 80, 3, 26, 3122, 1, 205, 0)), (6, (.ifCond .eq 7, 3, 13, 0, 0, 0, 0)), (9, (.iconst 1, 1, 0, 0, 0, 1, 0)), (10, (.goto 44, 3, 54, 0, 0, 0, 0)), (13, (.aload_n 0, 1, 0, 0, 0, 0, 0)), (14, (.ldc 163, 2, 9, 0, 1, 0, 0)), (16, (.invokevirtual 80, 3, 26, 3122, 1, 205, 0)), (19, (.ifCond .eq 7, 3, 26, 0, 0, 0, 0)), (22, (.iconst 2, 1, 0, 0, 0, 2, 0)), (23, (.goto 31, 3, 54, 0, 0, 0, 0)), (26, (.aload_n 0, 1, 0, 0, 0, 0, 0)), (27, (.ldc 164, 2, 10, 0, 1, 0, 0)), (29, (.invokevirtual 80, 3, 26, 3122, 1, 205, 0))],
  [(32, (.ifCond .eq 7, 3, 39, 0, 0, 0, 0)), (35, (.iconst 3, 1, 0, 0, 0, 3, 0)), (36, (.goto 18, 3, 54, 0, 0, 0, 0)), (39, (.aload_n 0, 1, 0, 0, 0, 0, 0)), (40, (.ldc 165, 2, 11, 0, 1, 0, 0)), (42, (.invokevirtual 80, 3, 26, 3122, 1, 205, 0)), (45, (.ifCond .eq 7, 3, 52, 0, 0, 0, 0)), (48, (.iconst 4, 1, 0, 0, 0, 4, 0)), (49, (.goto 5, 3, 54, 0, 0, 0, 0)), (52, (.bipush (-4), 2, 0, 0, 0, (-4), 0)), (54, (.ireturn, 1, 0, 0, 0, 0, 0))]]
def tX3_takeLetters : List (List (Nat × E_)) := [[(0, (.aload_n 0, 1, 0, 0, 0, 0, 0)), (1, (.getfield 24, 3, 3, 2, 0, 166, 0)), (4, (.ifCond .eq 5, 3, 9, 0, 0, 0, 0)), (7, (.iconst 0, 1, 0, 0, 0, 0, 0)), (8, (.ireturn, 1, 0, 0, 0, 0, 0)), (9, (.aload_n 0, 1, 0, 0, 0, 0, 0)), (10, (.getfield 39, 3, 3, 6, 0, 170, 0)), (13, (.iconst 1, 1, 0, 0, 0, 1, 0)), (14, (.if_icmp .eq 18, 3, 32, 0, 0, 0, 0)), (17, (.aload_n 0, 1, 0, 0, 0, 0, 0)), (18, (.getfield 39, 3, 3, 6, 0, 170, 0)), (21, (.iconst 4, 1, 0, 0, 0, 4, 0)), (22, (.if_icmp .eq 10, 3, 32, 0, 0, 0, 0)), (25, (.aload_n 0, 1, 0, 0, 0, 0, 0)), (26, (.iconst 2, 1, 0, 0, 0, 2, 0)), (27, (.invokevirtual 62, 3, 22, 3106, 0, 193, 0)), (30, (.iconst 0, 1, 0, 0, 0, 0, 0)), (31, (.ireturn, 1, 0, 0, 0, 0, 0))],
  [(32, (.iconst 0, 1, 0, 0, 0, 0, 0)), (33, (.istore_n 2, 1, 2, 0, 0, 0, 0)), (34, (.aload_n 0, 1, 0, 0, 0, 0, 0)), (35, (.getfield 49, 3, 3, 7, 0, 183, 0)), (38, (.istore_n 3, 1, 3, 0, 0, 0, 0)), (39, (.iload_n 3, 1, 3, 0, 0, 0, 0)), (40, (.aload_n 0, 1, 0, 0, 0, 0, 0)), (41, (.getfield 59, 3, 3, 8, 0, 184, 0)), (44, (.if_icmp .ge 59, 3, 103, 0, 0, 0, 0)), (47, (.aload_n 0, 1, 0, 0, 0, 0, 0)), (48, (.getfield 39, 3, 3, 6, 0, 170, 0)), (51, (.iconst 1, 1, 0, 0, 0, 1, 0)), (52, (.if_icmp .ne 51, 3, 103, 0, 0, 0, 0)), (55, (.aload_n 0, 1, 0, 0, 0, 0, 0)), (56, (.iload_n 3, 1, 3, 0, 0, 0, 0)), (57, (.invokevirtual 52, 3, 23, 3106, 1, 185, 0)), (60, (.bipush 97, 2, 0, 0, 0, 97, 0)), (62, (.isub, 1, 0, 0, 0, 0, 0)), (63, (.istore 4, 2, 4, 0, 0, 0, 0))],
  [(65, (.iload 4, 2, 4, 0, 0, 0, 0)), (67, (.bipush 8, 2, 0, 0, 0, 8, 0)), (69, (.if_icmp .ge 14, 3, 83, 0, 0, 0, 0)), (72, (.iload 4, 2, 4, 0, 0, 0, 0)), (74, (.iload_n 2, 1, 2, 0, 0, 0, 0)), (75, (.iload_n 1, 1, 1, 0, 0, 0, 0)), (76, (.ior, 1, 0, 0, 0, 0, 0)), (77, (.invokestatic 145, 3, 109, 34, 1, -1, 0)), (80, (.ifCond .eq 10, 3, 90, 0, 0, 0, 0)), (83, (.aload_n 0, 1, 0, 0, 0, 0, 0)), (84, (.iconst 3, 1, 0, 0, 0, 3, 0)), (85, (.invokevirtual 62, 3, 22, 3106, 0, 193, 0)), (88, (.iconst 0, 1, 0, 0, 0, 0, 0)), (89, (.ireturn, 1, 0, 0, 0, 0, 0)), (90, (.iload_n 2, 1, 2, 0, 0, 0, 0)), (91, (.iconst 1, 1, 0, 0, 0, 1, 0)), (92, (.iload 4, 2, 4, 0, 0, 0, 0)), (94, (.ishl, 1, 0, 0, 0, 0, 0)), (95, (.ior, 1, 0, 0, 0, 0, 0))],
  [(96, (.istore_n 2, 1, 2, 0, 0, 0, 0)), (97, (.iinc 3 1, 3, 3, 0, 0, 1, 0)), (100, (.goto (-61), 3, 39, 0, 0, 0, 0)), (103, (.aload_n 0, 1, 0, 0, 0, 0, 0)), (104, (.invokevirtual 36, 3, 25, 3089, 0, 179, 0)), (107, (.iload_n 2, 1, 2, 0, 0, 0, 0)), (108, (.ireturn, 1, 0, 0, 0, 0, 0))]]
def tX3_takeNumber : List (List (Nat × E_)) := [[(0, (.aload_n 0, 1, 0, 0, 0, 0, 0)), (1, (.getfield 24, 3, 3, 2, 0, 166, 0)), (4, (.ifCond .eq 5, 3, 9, 0, 0, 0, 0)), (7, (.iconst 0, 1, 0, 0, 0, 0, 0)), (8, (.ireturn, 1, 0, 0, 0, 0, 0)), (9, (.aload_n 0, 1, 0, 0, 0, 0, 0)), (10, (.getfield 39, 3, 3, 6, 0, 170, 0)), (13, (.iconst 2, 1, 0, 0, 0, 2, 0)), (14, (.if_icmp .eq 10, 3, 24, 0, 0, 0, 0)), (17, (.aload_n 0, 1, 0, 0, 0, 0, 0)), (18, (.iconst 2, 1, 0, 0, 0, 2, 0)), (19, (.invokevirtual 62, 3, 22, 3106, 0, 193, 0)), (22, (.iconst 0, 1, 0, 0, 0, 0, 0)), (23, (.ireturn, 1, 0, 0, 0, 0, 0)), (24, (.iconst 0, 1, 0, 0, 0, 0, 0)), (25, (.istore_n 2, 1, 2, 0, 0, 0, 0)), (26, (.aload_n 0, 1, 0, 0, 0, 0, 0)), (27, (.getfield 49, 3, 3, 7, 0, 183, 0)), (30, (.istore_n 3, 1, 3, 0, 0, 0, 0)), (31, (.iload_n 3, 1, 3, 0, 0, 0, 0))],
  [(32, (.aload_n 0, 1, 0, 0, 0, 0, 0)), (33, (.getfield 59, 3, 3, 8, 0, 184, 0)), (36, (.if_icmp .ge 23, 3, 59, 0, 0, 0, 0)), (39, (.iload_n 2, 1, 2, 0, 0, 0, 0)), (40, (.bipush 10, 2, 0, 0, 0, 10, 0)), (42, (.imul, 1, 0, 0, 0, 0, 0)), (43, (.aload_n 0, 1, 0, 0, 0, 0, 0)), (44, (.iload_n 3, 1, 3, 0, 0, 0, 0)), (45, (.invokevirtual 52, 3, 23, 3106, 1, 185, 0)), (48, (.iadd, 1, 0, 0, 0, 0, 0)), (49, (.bipush 48, 2, 0, 0, 0, 48, 0)), (51, (.isub, 1, 0, 0, 0, 0, 0)), (52, (.istore_n 2, 1, 2, 0, 0, 0, 0)), (53, (.iinc 3 1, 3, 3, 0, 0, 1, 0)), (56, (.goto (-25), 3, 31, 0, 0, 0, 0)), (59, (.iload_n 2, 1, 2, 0, 0, 0, 0)), (60, (.iload_n 1, 1, 1, 0, 0, 0, 0)), (61, (.if_icmp .lt 10, 3, 71, 0, 0, 0, 0))],
  [(64, (.aload_n 0, 1, 0, 0, 0, 0, 0)), (65, (.iconst 3, 1, 0, 0, 0, 3, 0)), (66, (.invokevirtual 62, 3, 22, 3106, 0, 193, 0)), (69, (.iconst 0, 1, 0, 0, 0, 0, 0)), (70, (.ireturn, 1, 0, 0, 0, 0, 0)), (71, (.aload_n 0, 1, 0, 0, 0, 0, 0)), (72, (.invokevirtual 36, 3, 25, 3089, 0, 179, 0)), (75, (.iload_n 2, 1, 2, 0, 0, 0, 0)), (76, (.ireturn, 1, 0, 0, 0, 0, 0))]]
def tX4_empty : List (List (Nat × E_)) := [[(0, (.aload_n 0, 1, 0, 0, 0, 0, 0)), (1, (.iconst 0, 1, 0, 0, 0, 0, 0)), (2, (.putfield 58, 3, 4, 0, 0, 175, 0)), (5, (.aload_n 0, 1, 0, 0, 0, 0, 0)), (6, (.iconst 0, 1, 0, 0, 0, 0, 0)), (7, (.putfield 62, 3, 4, 1, 0, 176, 0)), (10, (.aload_n 0, 1, 0, 0, 0, 0, 0)), (11, (.iconst 0, 1, 0, 0, 0, 0, 0)), (12, (.putfield 65, 3, 4, 2, 0, 177, 0)), (15, (.aload_n 0, 1, 0, 0, 0, 0, 0)), (16, (.iconst 0, 1, 0, 0, 0, 0, 0)), (17, (.putfield 68, 3, 4, 3, 0, 178, 0)), (20, (.return_, 1, 0, 0, 0, 0, 0))]]
def tX4_addThing : List (List (Nat × E_)) := [[(0, (.aload_n 0, 1, 0, 0, 0, 0, 0)), (1, (.getfield 58, 3, 4, 0, 0, 175, 0)), (4, (.bipush 8, 2, 0, 0, 0, 8, 0)), (6, (.if_icmp .ge 23, 3, 29, 0, 0, 0, 0)), (9, (.aload_n 0, 1, 0, 0, 0, 0, 0)), (10, (.getfield 9, 3, 4, 4, 1, 46, 0)), (13, (.aload_n 0, 1, 0, 0, 0, 0, 0)), (14, (.getfield 58, 3, 4, 0, 0, 175, 0)), (17, (.iload_n 1, 1, 1, 0, 0, 0, 0)), (18, (.iastore, 1, 0, 0, 0, 0, 0)), (19, (.aload_n 0, 1, 0, 0, 0, 0, 0)), (20, (.dup, 1, 0, 0, 0, 0, 0)), (21, (.getfield 58, 3, 4, 0, 0, 175, 0)), (24, (.iconst 1, 1, 0, 0, 0, 1, 0)), (25, (.iadd, 1, 0, 0, 0, 0, 0)), (26, (.putfield 58, 3, 4, 0, 0, 175, 0)), (29, (.return_, 1, 0, 0, 0, 0, 0))]]
def tX4_addMeaning : List (List (Nat × E_)) := [[(0, (.aload_n 0, 1, 0, 0, 0, 0, 0)), (1, (.getfield 62, 3, 4, 1, 0, 176, 0)), (4, (.bipush 12, 2, 0, 0, 0, 12, 0)), (6, (.if_icmp .ge 48, 3, 54, 0, 0, 0, 0)), (9, (.aload_n 0, 1, 0, 0, 0, 0, 0)), (10, (.getfield 18, 3, 4, 6, 1, 48, 0)), (13, (.aload_n 0, 1, 0, 0, 0, 0, 0)), (14, (.getfield 62, 3, 4, 1, 0, 176, 0)), (17, (.iload_n 1, 1, 1, 0, 0, 0, 0)), (18, (.iastore, 1, 0, 0, 0, 0, 0)), (19, (.aload_n 0, 1, 0, 0, 0, 0, 0)), (20, (.getfield 21, 3, 4, 7, 1, 49, 0)), (23, (.aload_n 0, 1, 0, 0, 0, 0, 0)), (24, (.getfield 62, 3, 4, 1, 0, 176, 0)), (27, (.iload_n 2, 1, 2, 0, 0, 0, 0)), (28, (.iastore, 1, 0, 0, 0, 0, 0)), (29, (.aload_n 0, 1, 0, 0, 0, 0, 0)), (30, (.getfield 24, 3, 4, 8, 1, 50, 0))],
  [(33, (.aload_n 0, 1, 0, 0, 0, 0, 0)), (34, (.getfield 62, 3, 4, 1, 0, 176, 0)), (37, (.iload_n 1, 1, 1, 0, 0, 0, 0)), (38, (.iload_n 2, 1, 2, 0, 0, 0, 0)), (39, (.ior, 1, 0, 0, 0, 0, 0)), (40, (.invokestatic 71, 3, 217, 17, 1, 282, 0)), (43, (.iastore, 1, 0, 0, 0, 0, 0)), (44, (.aload_n 0, 1, 0, 0, 0, 0, 0)), (45, (.dup, 1, 0, 0, 0, 0, 0)), (46, (.getfield 62, 3, 4, 1, 0, 176, 0)), (49, (.iconst 1, 1, 0, 0, 0, 1, 0)), (50, (.iadd, 1, 0, 0, 0, 0, 0)), (51, (.putfield 62, 3, 4, 1, 0, 176, 0)), (54, (.return_, 1, 0, 0, 0, 0, 0))]]
def tX4_addSound : List (List (Nat × E_)) := [[(0, (.aload_n 0, 1, 0, 0, 0, 0, 0)), (1, (.getfield 65, 3, 4, 2, 0, 177, 0)), (4, (.iconst 4, 1, 0, 0, 0, 4, 0)), (5, (.if_icmp .ge 23, 3, 28, 0, 0, 0, 0)), (8, (.aload_n 0, 1, 0, 0, 0, 0, 0)), (9, (.getfield 36, 3, 4, 12, 1, 54, 0)), (12, (.aload_n 0, 1, 0, 0, 0, 0, 0)), (13, (.getfield 65, 3, 4, 2, 0, 177, 0)), (16, (.iload_n 1, 1, 1, 0, 0, 0, 0)), (17, (.iastore, 1, 0, 0, 0, 0, 0)), (18, (.aload_n 0, 1, 0, 0, 0, 0, 0)), (19, (.dup, 1, 0, 0, 0, 0, 0)), (20, (.getfield 65, 3, 4, 2, 0, 177, 0)), (23, (.iconst 1, 1, 0, 0, 0, 1, 0)), (24, (.iadd, 1, 0, 0, 0, 0, 0)), (25, (.putfield 65, 3, 4, 2, 0, 177, 0)), (28, (.return_, 1, 0, 0, 0, 0, 0))]]
def tX4_addKind : List (List (Nat × E_)) := [[(0, (.aload_n 0, 1, 0, 0, 0, 0, 0)), (1, (.getfield 68, 3, 4, 3, 0, 178, 0)), (4, (.bipush 6, 2, 0, 0, 0, 6, 0)), (6, (.if_icmp .ge 66, 3, 72, 0, 0, 0, 0)), (9, (.aload_n 0, 1, 0, 0, 0, 0, 0)), (10, (.getfield 39, 3, 4, 13, 1, 55, 0)), (13, (.aload_n 0, 1, 0, 0, 0, 0, 0)), (14, (.getfield 68, 3, 4, 3, 0, 178, 0)), (17, (.iload_n 1, 1, 1, 0, 0, 0, 0)), (18, (.iastore, 1, 0, 0, 0, 0, 0)), (19, (.aload_n 0, 1, 0, 0, 0, 0, 0)), (20, (.getfield 42, 3, 4, 14, 1, 56, 0)), (23, (.aload_n 0, 1, 0, 0, 0, 0, 0)), (24, (.getfield 68, 3, 4, 3, 0, 178, 0)), (27, (.sipush 255, 3, 0, 0, 0, 255, 0)), (30, (.iastore, 1, 0, 0, 0, 0, 0)), (31, (.aload_n 0, 1, 0, 0, 0, 0, 0))],
  [(32, (.getfield 45, 3, 4, 15, 1, 57, 0)), (35, (.aload_n 0, 1, 0, 0, 0, 0, 0)), (36, (.getfield 68, 3, 4, 3, 0, 178, 0)), (39, (.bipush (-4), 2, 0, 0, 0, (-4), 0)), (41, (.iastore, 1, 0, 0, 0, 0, 0)), (42, (.aload_n 0, 1, 0, 0, 0, 0, 0)), (43, (.getfield 48, 3, 4, 16, 1, 59, 0)), (46, (.aload_n 0, 1, 0, 0, 0, 0, 0)), (47, (.getfield 68, 3, 4, 3, 0, 178, 0)), (50, (.iconst 0, 1, 0, 0, 0, 0, 0)), (51, (.bastore, 1, 0, 0, 0, 0, 0)), (52, (.aload_n 0, 1, 0, 0, 0, 0, 0)), (53, (.getfield 52, 3, 4, 17, 1, 60, 0)), (56, (.aload_n 0, 1, 0, 0, 0, 0, 0)), (57, (.getfield 68, 3, 4, 3, 0, 178, 0)), (60, (.iconst 1, 1, 0, 0, 0, 1, 0)), (61, (.iastore, 1, 0, 0, 0, 0, 0)), (62, (.aload_n 0, 1, 0, 0, 0, 0, 0)), (63, (.dup, 1, 0, 0, 0, 0, 0))],
  [(64, (.getfield 68, 3, 4, 3, 0, 178, 0)), (67, (.iconst 1, 1, 0, 0, 0, 1, 0)), (68, (.iadd, 1, 0, 0, 0, 0, 0)), (69, (.putfield 68, 3, 4, 3, 0, 178, 0)), (72, (.return_, 1, 0, 0, 0, 0, 0))]]
def tX4_settle : List (List (Nat × E_)) := [[(0, (.iconst 0, 1, 0, 0, 0, 0, 0)), (1, (.istore_n 1, 1, 1, 0, 0, 0, 0)), (2, (.iload_n 1, 1, 1, 0, 0, 0, 0)), (3, (.aload_n 0, 1, 0, 0, 0, 0, 0)), (4, (.getfield 58, 3, 4, 0, 0, 175, 0)), (7, (.if_icmp .ge 16, 3, 23, 0, 0, 0, 0)), (10, (.aload_n 0, 1, 0, 0, 0, 0, 0)), (11, (.getfield 15, 3, 4, 5, 1, 47, 0)), (14, (.iload_n 1, 1, 1, 0, 0, 0, 0)), (15, (.iconst 0, 1, 0, 0, 0, 0, 0)), (16, (.iastore, 1, 0, 0, 0, 0, 0)), (17, (.iinc 1 1, 3, 1, 0, 0, 1, 0)), (20, (.goto (-18), 3, 2, 0, 0, 0, 0)), (23, (.iconst 0, 1, 0, 0, 0, 0, 0)), (24, (.istore_n 1, 1, 1, 0, 0, 0, 0)), (25, (.iload_n 1, 1, 1, 0, 0, 0, 0)), (26, (.aload_n 0, 1, 0, 0, 0, 0, 0)), (27, (.getfield 62, 3, 4, 1, 0, 176, 0)), (30, (.if_icmp .ge 94, 3, 124, 0, 0, 0, 0))],
  [(33, (.aload_n 0, 1, 0, 0, 0, 0, 0)), (34, (.getfield 27, 3, 4, 9, 1, 51, 0)), (37, (.iload_n 1, 1, 1, 0, 0, 0, 0)), (38, (.iconst 0, 1, 0, 0, 0, 0, 0)), (39, (.iastore, 1, 0, 0, 0, 0, 0)), (40, (.iconst 0, 1, 0, 0, 0, 0, 0)), (41, (.istore_n 2, 1, 2, 0, 0, 0, 0)), (42, (.iload_n 2, 1, 2, 0, 0, 0, 0)), (43, (.aload_n 0, 1, 0, 0, 0, 0, 0)), (44, (.getfield 58, 3, 4, 0, 0, 175, 0)), (47, (.if_icmp .ge 71, 3, 118, 0, 0, 0, 0)), (50, (.aload_n 0, 1, 0, 0, 0, 0, 0)), (51, (.getfield 9, 3, 4, 4, 1, 46, 0)), (54, (.iload_n 2, 1, 2, 0, 0, 0, 0)), (55, (.iaload, 1, 0, 0, 0, 0, 0)), (56, (.aload_n 0, 1, 0, 0, 0, 0, 0)), (57, (.getfield 18, 3, 4, 6, 1, 48, 0)), (60, (.iload_n 1, 1, 1, 0, 0, 0, 0)), (61, (.iaload, 1, 0, 0, 0, 0, 0)), (62, (.iand, 1, 0, 0, 0, 0, 0)), (63, (.aload_n 0, 1, 0, 0, 0, 0, 0))],
  [(64, (.getfield 18, 3, 4, 6, 1, 48, 0)), (67, (.iload_n 1, 1, 1, 0, 0, 0, 0)), (68, (.iaload, 1, 0, 0, 0, 0, 0)), (69, (.if_icmp .ne 43, 3, 112, 0, 0, 0, 0)), (72, (.aload_n 0, 1, 0, 0, 0, 0, 0)), (73, (.getfield 9, 3, 4, 4, 1, 46, 0)), (76, (.iload_n 2, 1, 2, 0, 0, 0, 0)), (77, (.iaload, 1, 0, 0, 0, 0, 0)), (78, (.aload_n 0, 1, 0, 0, 0, 0, 0)), (79, (.getfield 21, 3, 4, 7, 1, 49, 0)), (82, (.iload_n 1, 1, 1, 0, 0, 0, 0)), (83, (.iaload, 1, 0, 0, 0, 0, 0)), (84, (.iand, 1, 0, 0, 0, 0, 0)), (85, (.ifCond .ne 27, 3, 112, 0, 0, 0, 0)), (88, (.aload_n 0, 1, 0, 0, 0, 0, 0)), (89, (.getfield 27, 3, 4, 9, 1, 51, 0)), (92, (.iload_n 1, 1, 1, 0, 0, 0, 0)), (93, (.dup2, 1, 0, 0, 0, 0, 0)), (94, (.iaload, 1, 0, 0, 0, 0, 0)), (95, (.iconst 1, 1, 0, 0, 0, 1, 0))],
  [(96, (.iload_n 2, 1, 2, 0, 0, 0, 0)), (97, (.ishl, 1, 0, 0, 0, 0, 0)), (98, (.ior, 1, 0, 0, 0, 0, 0)), (99, (.iastore, 1, 0, 0, 0, 0, 0)), (100, (.aload_n 0, 1, 0, 0, 0, 0, 0)), (101, (.getfield 15, 3, 4, 5, 1, 47, 0)), (104, (.iload_n 2, 1, 2, 0, 0, 0, 0)), (105, (.dup2, 1, 0, 0, 0, 0, 0)), (106, (.iaload, 1, 0, 0, 0, 0, 0)), (107, (.iconst 1, 1, 0, 0, 0, 1, 0)), (108, (.iload_n 1, 1, 1, 0, 0, 0, 0)), (109, (.ishl, 1, 0, 0, 0, 0, 0)), (110, (.ior, 1, 0, 0, 0, 0, 0)), (111, (.iastore, 1, 0, 0, 0, 0, 0)), (112, (.iinc 2 1, 3, 2, 0, 0, 1, 0)), (115, (.goto (-73), 3, 42, 0, 0, 0, 0)), (118, (.iinc 1 1, 3, 1, 0, 0, 1, 0)), (121, (.goto (-96), 3, 25, 0, 0, 0, 0)), (124, (.iconst 0, 1, 0, 0, 0, 0, 0)), (125, (.istore_n 1, 1, 1, 0, 0, 0, 0)), (126, (.iload_n 1, 1, 1, 0, 0, 0, 0)), (127, (.aload_n 0, 1, 0, 0, 0, 0, 0))],
  [(128, (.getfield 68, 3, 4, 3, 0, 178, 0)), (131, (.if_icmp .ge 69, 3, 200, 0, 0, 0, 0)), (134, (.aload_n 0, 1, 0, 0, 0, 0, 0)), (135, (.getfield 55, 3, 4, 18, 1, 61, 0)), (138, (.iload_n 1, 1, 1, 0, 0, 0, 0)), (139, (.iconst 0, 1, 0, 0, 0, 0, 0)), (140, (.iastore, 1, 0, 0, 0, 0, 0)), (141, (.iconst 0, 1, 0, 0, 0, 0, 0)), (142, (.istore_n 2, 1, 2, 0, 0, 0, 0)), (143, (.iload_n 2, 1, 2, 0, 0, 0, 0)), (144, (.aload_n 0, 1, 0, 0, 0, 0, 0)), (145, (.getfield 62, 3, 4, 1, 0, 176, 0)), (148, (.if_icmp .ge 46, 3, 194, 0, 0, 0, 0)), (151, (.aload_n 0, 1, 0, 0, 0, 0, 0)), (152, (.getfield 18, 3, 4, 6, 1, 48, 0)), (155, (.iload_n 2, 1, 2, 0, 0, 0, 0)), (156, (.iaload, 1, 0, 0, 0, 0, 0)), (157, (.aload_n 0, 1, 0, 0, 0, 0, 0)), (158, (.getfield 21, 3, 4, 7, 1, 49, 0))],
  [(161, (.iload_n 2, 1, 2, 0, 0, 0, 0)), (162, (.iaload, 1, 0, 0, 0, 0, 0)), (163, (.ior, 1, 0, 0, 0, 0, 0)), (164, (.aload_n 0, 1, 0, 0, 0, 0, 0)), (165, (.getfield 42, 3, 4, 14, 1, 56, 0)), (168, (.iload_n 1, 1, 1, 0, 0, 0, 0)), (169, (.iaload, 1, 0, 0, 0, 0, 0)), (170, (.iconst (-1), 1, 0, 0, 0, (-1), 0)), (171, (.ixor, 1, 0, 0, 0, 0, 0)), (172, (.iand, 1, 0, 0, 0, 0, 0)), (173, (.ifCond .ne 15, 3, 188, 0, 0, 0, 0)), (176, (.aload_n 0, 1, 0, 0, 0, 0, 0)), (177, (.getfield 55, 3, 4, 18, 1, 61, 0)), (180, (.iload_n 1, 1, 1, 0, 0, 0, 0)), (181, (.dup2, 1, 0, 0, 0, 0, 0)), (182, (.iaload, 1, 0, 0, 0, 0, 0)), (183, (.iconst 1, 1, 0, 0, 0, 1, 0)), (184, (.iload_n 2, 1, 2, 0, 0, 0, 0)), (185, (.ishl, 1, 0, 0, 0, 0, 0)), (186, (.ior, 1, 0, 0, 0, 0, 0)), (187, (.iastore, 1, 0, 0, 0, 0, 0)), (188, (.iinc 2 1, 3, 2, 0, 0, 1, 0)), (191, (.goto (-48), 3, 143, 0, 0, 0, 0))],
  [(194, (.iinc 1 1, 3, 1, 0, 0, 1, 0)), (197, (.goto (-71), 3, 126, 0, 0, 0, 0)), (200, (.aload_n 0, 1, 0, 0, 0, 0, 0)), (201, (.invokevirtual 77, 3, 42, 4161, 0, 323, 0)), (204, (.return_, 1, 0, 0, 0, 0, 0))]]
def tX4_settleMeanings : List (List (Nat × E_)) := [[(0, (.iconst 0, 1, 0, 0, 0, 0, 0)), (1, (.istore_n 1, 1, 1, 0, 0, 0, 0)), (2, (.iload_n 1, 1, 1, 0, 0, 0, 0)), (3, (.aload_n 0, 1, 0, 0, 0, 0, 0)), (4, (.getfield 62, 3, 4, 1, 0, 176, 0)), (7, (.if_icmp .ge 59, 3, 66, 0, 0, 0, 0)), (10, (.aload_n 0, 1, 0, 0, 0, 0, 0)), (11, (.getfield 30, 3, 4, 10, 1, 52, 0)), (14, (.iload_n 1, 1, 1, 0, 0, 0, 0)), (15, (.iconst 0, 1, 0, 0, 0, 0, 0)), (16, (.iastore, 1, 0, 0, 0, 0, 0)), (17, (.iconst 0, 1, 0, 0, 0, 0, 0)), (18, (.istore_n 2, 1, 2, 0, 0, 0, 0)), (19, (.iload_n 2, 1, 2, 0, 0, 0, 0)), (20, (.aload_n 0, 1, 0, 0, 0, 0, 0)), (21, (.getfield 62, 3, 4, 1, 0, 176, 0)), (24, (.if_icmp .ge 36, 3, 60, 0, 0, 0, 0)), (27, (.aload_n 0, 1, 0, 0, 0, 0, 0)), (28, (.getfield 27, 3, 4, 9, 1, 51, 0)), (31, (.iload_n 1, 1, 1, 0, 0, 0, 0))],
  [(32, (.iaload, 1, 0, 0, 0, 0, 0)), (33, (.aload_n 0, 1, 0, 0, 0, 0, 0)), (34, (.getfield 27, 3, 4, 9, 1, 51, 0)), (37, (.iload_n 2, 1, 2, 0, 0, 0, 0)), (38, (.iaload, 1, 0, 0, 0, 0, 0)), (39, (.if_icmp .ne 15, 3, 54, 0, 0, 0, 0)), (42, (.aload_n 0, 1, 0, 0, 0, 0, 0)), (43, (.getfield 30, 3, 4, 10, 1, 52, 0)), (46, (.iload_n 1, 1, 1, 0, 0, 0, 0)), (47, (.dup2, 1, 0, 0, 0, 0, 0)), (48, (.iaload, 1, 0, 0, 0, 0, 0)), (49, (.iconst 1, 1, 0, 0, 0, 1, 0)), (50, (.iload_n 2, 1, 2, 0, 0, 0, 0)), (51, (.ishl, 1, 0, 0, 0, 0, 0)), (52, (.ior, 1, 0, 0, 0, 0, 0)), (53, (.iastore, 1, 0, 0, 0, 0, 0)), (54, (.iinc 2 1, 3, 2, 0, 0, 1, 0)), (57, (.goto (-38), 3, 19, 0, 0, 0, 0)), (60, (.iinc 1 1, 3, 1, 0, 0, 1, 0)), (63, (.goto (-61), 3, 2, 0, 0, 0, 0))],
  [(66, (.iconst 0, 1, 0, 0, 0, 0, 0)), (67, (.istore_n 1, 1, 1, 0, 0, 0, 0)), (68, (.iconst 0, 1, 0, 0, 0, 0, 0)), (69, (.istore_n 2, 1, 2, 0, 0, 0, 0)), (70, (.iload_n 2, 1, 2, 0, 0, 0, 0)), (71, (.bipush 8, 2, 0, 0, 0, 8, 0)), (73, (.if_icmp .gt 51, 3, 124, 0, 0, 0, 0)), (76, (.iconst 0, 1, 0, 0, 0, 0, 0)), (77, (.istore_n 3, 1, 3, 0, 0, 0, 0)), (78, (.iload_n 3, 1, 3, 0, 0, 0, 0)), (79, (.aload_n 0, 1, 0, 0, 0, 0, 0)), (80, (.getfield 62, 3, 4, 1, 0, 176, 0)), (83, (.if_icmp .ge 35, 3, 118, 0, 0, 0, 0)), (86, (.aload_n 0, 1, 0, 0, 0, 0, 0)), (87, (.getfield 24, 3, 4, 8, 1, 50, 0)), (90, (.iload_n 3, 1, 3, 0, 0, 0, 0)), (91, (.iaload, 1, 0, 0, 0, 0, 0)), (92, (.iload_n 2, 1, 2, 0, 0, 0, 0)), (93, (.if_icmp .ne 19, 3, 112, 0, 0, 0, 0))],
  [(96, (.iload_n 1, 1, 1, 0, 0, 0, 0)), (97, (.bipush 12, 2, 0, 0, 0, 12, 0)), (99, (.if_icmp .ge 13, 3, 112, 0, 0, 0, 0)), (102, (.aload_n 0, 1, 0, 0, 0, 0, 0)), (103, (.getfield 33, 3, 4, 11, 1, 53, 0)), (106, (.iload_n 1, 1, 1, 0, 0, 0, 0)), (107, (.iload_n 3, 1, 3, 0, 0, 0, 0)), (108, (.iastore, 1, 0, 0, 0, 0, 0)), (109, (.iinc 1 1, 3, 1, 0, 0, 1, 0)), (112, (.iinc 3 1, 3, 3, 0, 0, 1, 0)), (115, (.goto (-37), 3, 78, 0, 0, 0, 0)), (118, (.iinc 2 1, 3, 2, 0, 0, 1, 0)), (121, (.goto (-51), 3, 70, 0, 0, 0, 0)), (124, (.return_, 1, 0, 0, 0, 0, 0))]]
def tX4_hasThing : List (List (Nat × E_)) := [[(0, (.iload_n 1, 1, 1, 0, 0, 0, 0)), (1, (.ifCond .lt 15, 3, 16, 0, 0, 0, 0)), (4, (.iload_n 1, 1, 1, 0, 0, 0, 0)), (5, (.aload_n 0, 1, 0, 0, 0, 0, 0)), (6, (.getfield 58, 3, 4, 0, 0, 175, 0)), (9, (.if_icmp .ge 7, 3, 16, 0, 0, 0, 0)), (12, (.iconst 1, 1, 0, 0, 0, 1, 0)), (13, (.goto 4, 3, 17, 0, 0, 0, 0)), (16, (.iconst 0, 1, 0, 0, 0, 0, 0)), (17, (.ireturn, 1, 0, 0, 1, 0, 0))]]
def tX4_hasMeaning : List (List (Nat × E_)) := [[(0, (.iload_n 1, 1, 1, 0, 0, 0, 0)), (1, (.ifCond .lt 15, 3, 16, 0, 0, 0, 0)), (4, (.iload_n 1, 1, 1, 0, 0, 0, 0)), (5, (.aload_n 0, 1, 0, 0, 0, 0, 0)), (6, (.getfield 62, 3, 4, 1, 0, 176, 0)), (9, (.if_icmp .ge 7, 3, 16, 0, 0, 0, 0)), (12, (.iconst 1, 1, 0, 0, 0, 1, 0)), (13, (.goto 4, 3, 17, 0, 0, 0, 0)), (16, (.iconst 0, 1, 0, 0, 0, 0, 0)), (17, (.ireturn, 1, 0, 0, 1, 0, 0))]]
def tX4_hasSound : List (List (Nat × E_)) := [[(0, (.iload_n 1, 1, 1, 0, 0, 0, 0)), (1, (.ifCond .lt 15, 3, 16, 0, 0, 0, 0)), (4, (.iload_n 1, 1, 1, 0, 0, 0, 0)), (5, (.aload_n 0, 1, 0, 0, 0, 0, 0)), (6, (.getfield 65, 3, 4, 2, 0, 177, 0)), (9, (.if_icmp .ge 7, 3, 16, 0, 0, 0, 0)), (12, (.iconst 1, 1, 0, 0, 0, 1, 0)), (13, (.goto 4, 3, 17, 0, 0, 0, 0)), (16, (.iconst 0, 1, 0, 0, 0, 0, 0)), (17, (.ireturn, 1, 0, 0, 1, 0, 0))]]
def tX4_hasKind : List (List (Nat × E_)) := [[(0, (.iload_n 1, 1, 1, 0, 0, 0, 0)), (1, (.ifCond .lt 15, 3, 16, 0, 0, 0, 0)), (4, (.iload_n 1, 1, 1, 0, 0, 0, 0)), (5, (.aload_n 0, 1, 0, 0, 0, 0, 0)), (6, (.getfield 68, 3, 4, 3, 0, 178, 0)), (9, (.if_icmp .ge 7, 3, 16, 0, 0, 0, 0)), (12, (.iconst 1, 1, 0, 0, 0, 1, 0)), (13, (.goto 4, 3, 17, 0, 0, 0, 0)), (16, (.iconst 0, 1, 0, 0, 0, 0, 0)), (17, (.ireturn, 1, 0, 0, 1, 0, 0))]]
def tX4_areKinds : List (List (Nat × E_)) := [[(0, (.iload_n 1, 1, 1, 0, 0, 0, 0)), (1, (.ifCond .lt 17, 3, 18, 0, 0, 0, 0)), (4, (.iload_n 1, 1, 1, 0, 0, 0, 0)), (5, (.iconst 1, 1, 0, 0, 0, 1, 0)), (6, (.aload_n 0, 1, 0, 0, 0, 0, 0)), (7, (.getfield 68, 3, 4, 3, 0, 178, 0)), (10, (.ishl, 1, 0, 0, 0, 0, 0)), (11, (.if_icmp .ge 7, 3, 18, 0, 0, 0, 0)), (14, (.iconst 1, 1, 0, 0, 0, 1, 0)), (15, (.goto 4, 3, 19, 0, 0, 0, 0)), (18, (.iconst 0, 1, 0, 0, 0, 0, 0)), (19, (.ireturn, 1, 0, 0, 1, 0, 0))]]
def tX4_allMeanings : List (List (Nat × E_)) := [[(0, (.iconst 1, 1, 0, 0, 0, 1, 0)), (1, (.aload_n 0, 1, 0, 0, 0, 0, 0)), (2, (.getfield 62, 3, 4, 1, 0, 176, 0)), (5, (.ishl, 1, 0, 0, 0, 0, 0)), (6, (.iconst 1, 1, 0, 0, 0, 1, 0)), (7, (.isub, 1, 0, 0, 0, 0, 0)), (8, (.ireturn, 1, 0, 0, 0, 0, 0))]]
def tX4_allKinds : List (List (Nat × E_)) := [[(0, (.iconst 1, 1, 0, 0, 0, 1, 0)), (1, (.aload_n 0, 1, 0, 0, 0, 0, 0)), (2, (.getfield 68, 3, 4, 3, 0, 178, 0)), (5, (.ishl, 1, 0, 0, 0, 0, 0)), (6, (.iconst 1, 1, 0, 0, 0, 1, 0)), (7, (.isub, 1, 0, 0, 0, 0, 0)), (8, (.ireturn, 1, 0, 0, 0, 0, 0))]]
def tX4_plainest : List (List (Nat × E_)) := [[(0, (.iconst 0, 1, 0, 0, 0, 0, 0)), (1, (.istore_n 2, 1, 2, 0, 0, 0, 0)), (2, (.iload_n 2, 1, 2, 0, 0, 0, 0)), (3, (.aload_n 0, 1, 0, 0, 0, 0, 0)), (4, (.getfield 62, 3, 4, 1, 0, 176, 0)), (7, (.if_icmp .ge 29, 3, 36, 0, 0, 0, 0)), (10, (.aload_n 0, 1, 0, 0, 0, 0, 0)), (11, (.getfield 33, 3, 4, 11, 1, 53, 0)), (14, (.iload_n 2, 1, 2, 0, 0, 0, 0)), (15, (.iaload, 1, 0, 0, 0, 0, 0)), (16, (.iload_n 1, 1, 1, 0, 0, 0, 0)), (17, (.invokestatic 80, 3, 109, 34, 1, -2, 0)), (20, (.ifCond .eq 10, 3, 30, 0, 0, 0, 0)), (23, (.aload_n 0, 1, 0, 0, 0, 0, 0)), (24, (.getfield 33, 3, 4, 11, 1, 53, 0)), (27, (.iload_n 2, 1, 2, 0, 0, 0, 0)), (28, (.iaload, 1, 0, 0, 0, 0, 0)), (29, (.ireturn, 1, 0, 0, 0, 0, 0)), (30, (.iinc 2 1, 3, 2, 0, 0, 1, 0))],
  [(33, (.goto (-31), 3, 2, 0, 0, 0, 0)), (36, (.bipush (-4), 2, 0, 0, 0, (-4), 0)), (38, (.ireturn, 1, 0, 0, 0, 0, 0))]]
def tX4_fitting : List (List (Nat × E_)) := [[(0, (.aload_n 0, 1, 0, 0, 0, 0, 0)), (1, (.iload_n 1, 1, 1, 0, 0, 0, 0)), (2, (.invokevirtual 84, 3, 43, 4130, 1, 432, 0)), (5, (.ifCond .ne 5, 3, 10, 0, 0, 0, 0)), (8, (.iconst 0, 1, 0, 0, 0, 0, 0)), (9, (.ireturn, 1, 0, 0, 0, 0, 0)), (10, (.iload_n 2, 1, 2, 0, 0, 0, 0)), (11, (.ifCond .eq 12, 3, 23, 0, 0, 0, 0)), (14, (.aload_n 0, 1, 0, 0, 0, 0, 0)), (15, (.getfield 15, 3, 4, 5, 1, 47, 0)), (18, (.iload_n 1, 1, 1, 0, 0, 0, 0)), (19, (.iaload, 1, 0, 0, 0, 0, 0)), (20, (.goto 16, 3, 36, 0, 0, 0, 0)), (23, (.aload_n 0, 1, 0, 0, 0, 0, 0)), (24, (.invokevirtual 88, 3, 49, 4113, 1, 433, 0)), (27, (.aload_n 0, 1, 0, 0, 0, 0, 0)), (28, (.getfield 15, 3, 4, 5, 1, 47, 0)), (31, (.iload_n 1, 1, 1, 0, 0, 0, 0))],
  [(32, (.iaload, 1, 0, 0, 0, 0, 0)), (33, (.iconst (-1), 1, 0, 0, 0, (-1), 0)), (34, (.ixor, 1, 0, 0, 0, 0, 0)), (35, (.iand, 1, 0, 0, 0, 0, 0)), (36, (.ireturn, 1, 0, 0, 0, 0, 0))]]
def tX4_targetThings : List (List (Nat × E_)) := [[(0, (.aload_n 0, 1, 0, 0, 0, 0, 0)), (1, (.iload_n 1, 1, 1, 0, 0, 0, 0)), (2, (.invokevirtual 92, 3, 45, 4130, 1, 401, 0)), (5, (.ifCond .eq 30, 3, 35, 0, 0, 0, 0)), (8, (.aload_n 0, 1, 0, 0, 0, 0, 0)), (9, (.aload_n 0, 1, 0, 0, 0, 0, 0)), (10, (.getfield 36, 3, 4, 12, 1, 54, 0)), (13, (.iload_n 1, 1, 1, 0, 0, 0, 0)), (14, (.iaload, 1, 0, 0, 0, 0, 0)), (15, (.invokevirtual 95, 3, 44, 4130, 1, 405, 0)), (18, (.ifCond .eq 17, 3, 35, 0, 0, 0, 0)), (21, (.aload_n 0, 1, 0, 0, 0, 0, 0)), (22, (.getfield 27, 3, 4, 9, 1, 51, 0)), (25, (.aload_n 0, 1, 0, 0, 0, 0, 0)), (26, (.getfield 36, 3, 4, 12, 1, 54, 0)), (29, (.iload_n 1, 1, 1, 0, 0, 0, 0)), (30, (.iaload, 1, 0, 0, 0, 0, 0)), (31, (.iaload, 1, 0, 0, 0, 0, 0))],
  [(32, (.goto 4, 3, 36, 0, 0, 0, 0)), (35, (.iconst 0, 1, 0, 0, 0, 0, 0)), (36, (.ireturn, 1, 0, 0, 0, 0, 0))]]
def tX4_likeTarget : List (List (Nat × E_)) := [[(0, (.aload_n 0, 1, 0, 0, 0, 0, 0)), (1, (.iload_n 1, 1, 1, 0, 0, 0, 0)), (2, (.invokevirtual 92, 3, 45, 4130, 1, 401, 0)), (5, (.ifCond .eq 30, 3, 35, 0, 0, 0, 0)), (8, (.aload_n 0, 1, 0, 0, 0, 0, 0)), (9, (.aload_n 0, 1, 0, 0, 0, 0, 0)), (10, (.getfield 36, 3, 4, 12, 1, 54, 0)), (13, (.iload_n 1, 1, 1, 0, 0, 0, 0)), (14, (.iaload, 1, 0, 0, 0, 0, 0)), (15, (.invokevirtual 95, 3, 44, 4130, 1, 405, 0)), (18, (.ifCond .eq 17, 3, 35, 0, 0, 0, 0)), (21, (.aload_n 0, 1, 0, 0, 0, 0, 0)), (22, (.getfield 30, 3, 4, 10, 1, 52, 0)), (25, (.aload_n 0, 1, 0, 0, 0, 0, 0)), (26, (.getfield 36, 3, 4, 12, 1, 54, 0)), (29, (.iload_n 1, 1, 1, 0, 0, 0, 0)), (30, (.iaload, 1, 0, 0, 0, 0, 0)), (31, (.iaload, 1, 0, 0, 0, 0, 0))],
  [(32, (.goto 4, 3, 36, 0, 0, 0, 0)), (35, (.iconst 0, 1, 0, 0, 0, 0, 0)), (36, (.ireturn, 1, 0, 0, 0, 0, 0))]]
def tX4_isTarget : List (List (Nat × E_)) := [[(0, (.iload_n 2, 1, 2, 0, 0, 0, 0)), (1, (.aload_n 0, 1, 0, 0, 0, 0, 0)), (2, (.iload_n 1, 1, 1, 0, 0, 0, 0)), (3, (.invokevirtual 98, 3, 53, 4130, 1, 397, 0)), (6, (.invokestatic 80, 3, 109, 34, 1, -2, 0)), (9, (.ireturn, 1, 0, 0, 1, 0, 0))]]
def tX4_kindsThatCan : List (List (Nat × E_)) := [[(0, (.iconst 0, 1, 0, 0, 0, 0, 0)), (1, (.istore_n 2, 1, 2, 0, 0, 0, 0)), (2, (.iconst 0, 1, 0, 0, 0, 0, 0)), (3, (.istore_n 3, 1, 3, 0, 0, 0, 0)), (4, (.iload_n 3, 1, 3, 0, 0, 0, 0)), (5, (.aload_n 0, 1, 0, 0, 0, 0, 0)), (6, (.getfield 68, 3, 4, 3, 0, 178, 0)), (9, (.if_icmp .ge 28, 3, 37, 0, 0, 0, 0)), (12, (.iload_n 1, 1, 1, 0, 0, 0, 0)), (13, (.aload_n 0, 1, 0, 0, 0, 0, 0)), (14, (.getfield 55, 3, 4, 18, 1, 61, 0)), (17, (.iload_n 3, 1, 3, 0, 0, 0, 0)), (18, (.iaload, 1, 0, 0, 0, 0, 0)), (19, (.invokestatic 80, 3, 109, 34, 1, -2, 0)), (22, (.ifCond .eq 9, 3, 31, 0, 0, 0, 0)), (25, (.iload_n 2, 1, 2, 0, 0, 0, 0)), (26, (.iconst 1, 1, 0, 0, 0, 1, 0)), (27, (.iload_n 3, 1, 3, 0, 0, 0, 0)), (28, (.ishl, 1, 0, 0, 0, 0, 0)), (29, (.ior, 1, 0, 0, 0, 0, 0)), (30, (.istore_n 2, 1, 2, 0, 0, 0, 0)), (31, (.iinc 3 1, 3, 3, 0, 0, 1, 0))],
  [(34, (.goto (-30), 3, 4, 0, 0, 0, 0)), (37, (.iload_n 2, 1, 2, 0, 0, 0, 0)), (38, (.ireturn, 1, 0, 0, 0, 0, 0))]]
def tX4_chances : List (List (Nat × E_)) := [[(0, (.iconst 0, 1, 0, 0, 0, 0, 0)), (1, (.istore_n 2, 1, 2, 0, 0, 0, 0)), (2, (.iconst 0, 1, 0, 0, 0, 0, 0)), (3, (.istore_n 3, 1, 3, 0, 0, 0, 0)), (4, (.iload_n 3, 1, 3, 0, 0, 0, 0)), (5, (.aload_n 0, 1, 0, 0, 0, 0, 0)), (6, (.getfield 68, 3, 4, 3, 0, 178, 0)), (9, (.if_icmp .ge 26, 3, 35, 0, 0, 0, 0)), (12, (.iload_n 3, 1, 3, 0, 0, 0, 0)), (13, (.iload_n 1, 1, 1, 0, 0, 0, 0)), (14, (.invokestatic 80, 3, 109, 34, 1, -2, 0)), (17, (.ifCond .eq 12, 3, 29, 0, 0, 0, 0)), (20, (.iload_n 2, 1, 2, 0, 0, 0, 0)), (21, (.aload_n 0, 1, 0, 0, 0, 0, 0)), (22, (.getfield 52, 3, 4, 17, 1, 60, 0)), (25, (.iload_n 3, 1, 3, 0, 0, 0, 0)), (26, (.iaload, 1, 0, 0, 0, 0, 0)), (27, (.iadd, 1, 0, 0, 0, 0, 0)), (28, (.istore_n 2, 1, 2, 0, 0, 0, 0)), (29, (.iinc 3 1, 3, 3, 0, 0, 1, 0))],
  [(32, (.goto (-28), 3, 4, 0, 0, 0, 0)), (35, (.iload_n 2, 1, 2, 0, 0, 0, 0)), (36, (.ireturn, 1, 0, 0, 0, 0, 0))]]
def tX6_feed : List (List (Nat × E_)) := [[(0, (.aload_n 0, 1, 0, 0, 0, 0, 0)), (1, (.getfield 10, 3, 6, 0, 51, 13, 0)), (4, (.getfield 61, 3, 3, 1, 0, 136, 0)), (7, (.sipush 392, 3, 0, 0, 0, 392, 0)), (10, (.if_icmp .le 6, 3, 16, 0, 0, 0, 0)), (13, (.bipush (-3), 2, 0, 0, 0, (-3), 0)), (15, (.ireturn, 1, 0, 0, 0, 0, 0)), (16, (.bipush 7, 2, 0, 0, 0, 7, 0)), (18, (.istore_n 3, 1, 3, 0, 0, 0, 0)), (19, (.iload_n 3, 1, 3, 0, 0, 0, 0)), (20, (.ifCond .lt 27, 3, 47, 0, 0, 0, 0)), (23, (.aload_n 0, 1, 0, 0, 0, 0, 0)), (24, (.getfield 10, 3, 6, 0, 51, 13, 0)), (27, (.lload_n 1, 1, 1, 0, 0, 0, 0)), (28, (.bipush 8, 2, 0, 0, 0, 8, 0)), (30, (.iload_n 3, 1, 3, 0, 0, 0, 0)), (31, (.imul, 1, 0, 0, 0, 0, 0))],
  [(32, (.lushr, 1, 0, 0, 0, 0, 0)), (33, (.l2i, 1, 0, 0, 0, 0, 0)), (34, (.sipush 255, 3, 0, 0, 0, 255, 0)), (37, (.iand, 1, 0, 0, 0, 0, 0)), (38, (.invokevirtual 65, 3, 20, 3106, 0, 137, 0)), (41, (.iinc 3 (-1), 3, 3, 0, 0, (-1), 0)), (44, (.goto (-25), 3, 19, 0, 0, 0, 0)), (47, (.aload_n 0, 1, 0, 0, 0, 0, 0)), (48, (.getfield 10, 3, 6, 0, 51, 13, 0)), (51, (.getfield 61, 3, 3, 1, 0, 136, 0)), (54, (.ireturn, 1, 0, 0, 0, 0, 0))]]
def tX6_end : List (List (Nat × E_)) := [[(0, (.iload_n 1, 1, 1, 0, 0, 0, 0)), (1, (.ifCond .lt 14, 3, 15, 0, 0, 0, 0)), (4, (.iload_n 1, 1, 1, 0, 0, 0, 0)), (5, (.aload_n 0, 1, 0, 0, 0, 0, 0)), (6, (.getfield 10, 3, 6, 0, 51, 13, 0)), (9, (.getfield 61, 3, 3, 1, 0, 136, 0)), (12, (.if_icmp .le 5, 3, 17, 0, 0, 0, 0)), (15, (.iconst (-1), 1, 0, 0, 0, (-1), 0)), (16, (.ireturn, 1, 0, 0, 0, 0, 0)), (17, (.aload_n 0, 1, 0, 0, 0, 0, 0)), (18, (.getfield 10, 3, 6, 0, 51, 13, 0)), (21, (.getfield 61, 3, 3, 1, 0, 136, 0)), (24, (.istore_n 2, 1, 2, 0, 0, 0, 0)), (25, (.aload_n 0, 1, 0, 0, 0, 0, 0)), (26, (.getfield 10, 3, 6, 0, 51, 13, 0)), (29, (.iload_n 1, 1, 1, 0, 0, 0, 0)), (30, (.putfield 61, 3, 3, 1, 0, 136, 0))],
  [(33, (.iload_n 2, 1, 2, 0, 0, 0, 0)), (34, (.ireturn, 1, 0, 0, 0, 0, 0))]]
def tX6_text : List (List (Nat × E_)) := [[(0, (.aload_n 0, 1, 0, 0, 0, 0, 0)), (1, (.getfield 10, 3, 6, 0, 51, 13, 0)), (4, (.aload_n 0, 1, 0, 0, 0, 0, 0)), (5, (.getfield 23, 3, 6, 2, 2, 18, 0)), (8, (.invokevirtual 69, 3, 21, 3122, 1, 162, 0)), (11, (.istore_n 1, 1, 1, 0, 0, 0, 0)), (12, (.aload_n 0, 1, 0, 0, 0, 0, 0)), (13, (.getfield 10, 3, 6, 0, 51, 13, 0)), (16, (.iconst 0, 1, 0, 0, 0, 0, 0)), (17, (.putfield 61, 3, 3, 1, 0, 136, 0)), (20, (.iload_n 1, 1, 1, 0, 0, 0, 0)), (21, (.ifCond .ne 14, 3, 35, 0, 0, 0, 0)), (24, (.bipush (-10), 2, 0, 0, 0, (-10), 0)), (26, (.aload_n 0, 1, 0, 0, 0, 0, 0)), (27, (.getfield 10, 3, 6, 0, 51, 13, 0)), (30, (.getfield 73, 3, 3, 3, 0, 159, 0))],
  [(33, (.isub, 1, 0, 0, 0, 0, 0)), (34, (.ireturn, 1, 0, 0, 0, 0, 0)), (35, (.aload_n 0, 1, 0, 0, 0, 0, 0)), (36, (.getfield 19, 3, 6, 1, 2, 17, 0)), (39, (.astore_n 2, 1, 2, 0, 0, 0, 0)), (40, (.aload_n 0, 1, 0, 0, 0, 0, 0)), (41, (.aload_n 0, 1, 0, 0, 0, 0, 0)), (42, (.getfield 23, 3, 6, 2, 2, 18, 0)), (45, (.putfield 19, 3, 6, 1, 2, 17, 0)), (48, (.aload_n 0, 1, 0, 0, 0, 0, 0)), (49, (.aload_n 2, 1, 2, 0, 0, 0, 0)), (50, (.putfield 23, 3, 6, 2, 2, 18, 0)), (53, (.iconst 0, 1, 0, 0, 0, 0, 0)), (54, (.istore_n 3, 1, 3, 0, 0, 0, 0)), (55, (.iload_n 3, 1, 3, 0, 0, 0, 0)), (56, (.iconst 2, 1, 0, 0, 0, 2, 0)), (57, (.if_icmp .ge 19, 3, 76, 0, 0, 0, 0)), (60, (.aload_n 0, 1, 0, 0, 0, 0, 0)), (61, (.getfield 33, 3, 6, 4, 1, 23, 0))],
  [(64, (.iload_n 3, 1, 3, 0, 0, 0, 0)), (65, (.aaload, 1, 0, 0, 0, 0, 0)), (66, (.iconst 0, 1, 0, 0, 0, 0, 0)), (67, (.putfield 76, 3, 1, 8, 1, 160, 0)), (70, (.iinc 3 1, 3, 3, 0, 0, 1, 0)), (73, (.goto (-18), 3, 55, 0, 0, 0, 0)), (76, (.aload_n 0, 1, 0, 0, 0, 0, 0)), (77, (.getfield 29, 3, 6, 3, 19, 22, 0)), (80, (.aload_n 0, 1, 0, 0, 0, 0, 0)), (81, (.getfield 19, 3, 6, 1, 2, 17, 0)), (84, (.invokevirtual 80, 3, 13, 1058, 0, 327, 0)), (87, (.aload_n 0, 1, 0, 0, 0, 0, 0)), (88, (.getfield 40, 3, 6, 5, 3, 27, 0)), (91, (.aload_n 0, 1, 0, 0, 0, 0, 0)), (92, (.getfield 19, 3, 6, 1, 2, 17, 0)), (95, (.invokevirtual 84, 3, 0, 50, 0, 338, 0))],
  [(98, (.aload_n 0, 1, 0, 0, 0, 0, 0)), (99, (.getfield 10, 3, 6, 0, 51, 13, 0)), (102, (.getfield 87, 3, 3, 4, 0, 161, 0)), (105, (.ireturn, 1, 0, 0, 0, 0, 0))]]
def tX6_thing : List (List (Nat × E_)) := [[(0, (.aload_n 0, 1, 0, 0, 0, 0, 0)), (1, (.getfield 19, 3, 6, 1, 2, 17, 0)), (4, (.iload_n 1, 1, 1, 0, 0, 0, 0)), (5, (.invokevirtual 93, 3, 43, 4130, 1, 352, 0)), (8, (.ifCond .eq 15, 3, 23, 0, 0, 0, 0)), (11, (.aload_n 0, 1, 0, 0, 0, 0, 0)), (12, (.getfield 19, 3, 6, 1, 2, 17, 0)), (15, (.getfield 97, 3, 4, 4, 1, 351, 0)), (18, (.iload_n 1, 1, 1, 0, 0, 0, 0)), (19, (.iaload, 1, 0, 0, 0, 0, 0)), (20, (.goto 4, 3, 24, 0, 0, 0, 0)), (23, (.iconst (-1), 1, 0, 0, 0, (-1), 0)), (24, (.ireturn, 1, 0, 0, 0, 0, 0))]]
def tX6_meaning : List (List (Nat × E_)) := [[(0, (.aload_n 0, 1, 0, 0, 0, 0, 0)), (1, (.getfield 19, 3, 6, 1, 2, 17, 0)), (4, (.iload_n 1, 1, 1, 0, 0, 0, 0)), (5, (.invokevirtual 101, 3, 44, 4130, 1, 364, 0)), (8, (.ifCond .ne 5, 3, 13, 0, 0, 0, 0)), (11, (.iconst (-1), 1, 0, 0, 0, (-1), 0)), (12, (.ireturn, 1, 0, 0, 0, 0, 0)), (13, (.iload_n 2, 1, 2, 0, 0, 0, 0)), (14, (.tableswitch 83 0 4 #[34, 44, 54, 64, 74], 34, 1, 0, 0, 0, 0))],
  [(48, (.aload_n 0, 1, 0, 0, 0, 0, 0)), (49, (.getfield 19, 3, 6, 1, 2, 17, 0)), (52, (.getfield 104, 3, 4, 6, 1, 360, 0)), (55, (.iload_n 1, 1, 1, 0, 0, 0, 0)), (56, (.iaload, 1, 0, 0, 0, 0, 0)), (57, (.ireturn, 1, 0, 0, 0, 0, 0)), (58, (.aload_n 0, 1, 0, 0, 0, 0, 0)), (59, (.getfield 19, 3, 6, 1, 2, 17, 0)), (62, (.getfield 107, 3, 4, 7, 1, 361, 0))],
  [(65, (.iload_n 1, 1, 1, 0, 0, 0, 0)), (66, (.iaload, 1, 0, 0, 0, 0, 0)), (67, (.ireturn, 1, 0, 0, 0, 0, 0)), (68, (.aload_n 0, 1, 0, 0, 0, 0, 0)), (69, (.getfield 19, 3, 6, 1, 2, 17, 0)), (72, (.getfield 110, 3, 4, 8, 1, 362, 0)), (75, (.iload_n 1, 1, 1, 0, 0, 0, 0)), (76, (.iaload, 1, 0, 0, 0, 0, 0)), (77, (.ireturn, 1, 0, 0, 0, 0, 0)), (78, (.aload_n 0, 1, 0, 0, 0, 0, 0)), (79, (.getfield 19, 3, 6, 1, 2, 17, 0)), (82, (.getfield 113, 3, 4, 9, 1, 363, 0)), (85, (.iload_n 1, 1, 1, 0, 0, 0, 0)), (86, (.iaload, 1, 0, 0, 0, 0, 0)), (87, (.ireturn, 1, 0, 0, 0, 0, 0)), (88, (.aload_n 0, 1, 0, 0, 0, 0, 0)), (89, (.getfield 19, 3, 6, 1, 2, 17, 0)), (92, (.iload_n 1, 1, 1, 0, 0, 0, 0)), (93, (.invokevirtual 116, 3, 56, 4162, 1, 368, 0))],
  [(96, (.ireturn, 1, 0, 0, 0, 0, 0)), (97, (.iconst (-1), 1, 0, 0, 0, (-1), 0)), (98, (.ireturn, 1, 0, 0, 0, 0, 0))]]
def tX6_word : List (List (Nat × E_)) := [[(0, (.aload_n 0, 1, 0, 0, 0, 0, 0)), (1, (.getfield 19, 3, 6, 1, 2, 17, 0)), (4, (.iload_n 1, 1, 1, 0, 0, 0, 0)), (5, (.invokevirtual 120, 3, 45, 4130, 1, 411, 0)), (8, (.ifCond .eq 15, 3, 23, 0, 0, 0, 0)), (11, (.aload_n 0, 1, 0, 0, 0, 0, 0)), (12, (.getfield 19, 3, 6, 1, 2, 17, 0)), (15, (.getfield 123, 3, 4, 12, 1, 604, 0)), (18, (.iload_n 1, 1, 1, 0, 0, 0, 0)), (19, (.iaload, 1, 0, 0, 0, 0, 0)), (20, (.goto 4, 3, 24, 0, 0, 0, 0)), (23, (.iconst (-1), 1, 0, 0, 0, (-1), 0)), (24, (.ireturn, 1, 0, 0, 0, 0, 0))]]
def tX6_kind : List (List (Nat × E_)) := [[(0, (.aload_n 0, 1, 0, 0, 0, 0, 0)), (1, (.getfield 19, 3, 6, 1, 2, 17, 0)), (4, (.iload_n 1, 1, 1, 0, 0, 0, 0)), (5, (.invokevirtual 126, 3, 46, 4130, 1, 385, 0)), (8, (.ifCond .ne 5, 3, 13, 0, 0, 0, 0)), (11, (.iconst (-1), 1, 0, 0, 0, (-1), 0)), (12, (.ireturn, 1, 0, 0, 0, 0, 0)), (13, (.iload_n 2, 1, 2, 0, 0, 0, 0)), (14, (.tableswitch 106 0 5 #[38, 48, 58, 68, 86, 96], 38, 2, 0, 0, 0, 0))],
  [(52, (.aload_n 0, 1, 0, 0, 0, 0, 0)), (53, (.getfield 19, 3, 6, 1, 2, 17, 0)), (56, (.getfield 129, 3, 4, 13, 1, 379, 0)), (59, (.iload_n 1, 1, 1, 0, 0, 0, 0)), (60, (.iaload, 1, 0, 0, 0, 0, 0)), (61, (.ireturn, 1, 0, 0, 0, 0, 0)), (62, (.aload_n 0, 1, 0, 0, 0, 0, 0)), (63, (.getfield 19, 3, 6, 1, 2, 17, 0))],
  [(66, (.getfield 132, 3, 4, 14, 1, 380, 0)), (69, (.iload_n 1, 1, 1, 0, 0, 0, 0)), (70, (.iaload, 1, 0, 0, 0, 0, 0)), (71, (.ireturn, 1, 0, 0, 0, 0, 0)), (72, (.aload_n 0, 1, 0, 0, 0, 0, 0)), (73, (.getfield 19, 3, 6, 1, 2, 17, 0)), (76, (.getfield 135, 3, 4, 15, 1, 381, 0)), (79, (.iload_n 1, 1, 1, 0, 0, 0, 0)), (80, (.iaload, 1, 0, 0, 0, 0, 0)), (81, (.ireturn, 1, 0, 0, 0, 0, 0)), (82, (.aload_n 0, 1, 0, 0, 0, 0, 0)), (83, (.getfield 19, 3, 6, 1, 2, 17, 0)), (86, (.getfield 138, 3, 4, 16, 1, 382, 0)), (89, (.iload_n 1, 1, 1, 0, 0, 0, 0)), (90, (.baload, 1, 0, 0, 0, 0, 0)), (91, (.ifCond .eq 7, 3, 98, 0, 0, 0, 0)), (94, (.iconst 1, 1, 0, 0, 0, 1, 0)), (95, (.goto 4, 3, 99, 0, 0, 0, 0))],
  [(98, (.iconst 0, 1, 0, 0, 0, 0, 0)), (99, (.ireturn, 1, 0, 0, 0, 0, 0)), (100, (.aload_n 0, 1, 0, 0, 0, 0, 0)), (101, (.getfield 19, 3, 6, 1, 2, 17, 0)), (104, (.getfield 142, 3, 4, 17, 1, 383, 0)), (107, (.iload_n 1, 1, 1, 0, 0, 0, 0)), (108, (.iaload, 1, 0, 0, 0, 0, 0)), (109, (.ireturn, 1, 0, 0, 0, 0, 0)), (110, (.aload_n 0, 1, 0, 0, 0, 0, 0)), (111, (.getfield 19, 3, 6, 1, 2, 17, 0)), (114, (.getfield 145, 3, 4, 18, 1, 384, 0)), (117, (.iload_n 1, 1, 1, 0, 0, 0, 0)), (118, (.iaload, 1, 0, 0, 0, 0, 0)), (119, (.ireturn, 1, 0, 0, 0, 0, 0)), (120, (.iconst (-1), 1, 0, 0, 0, (-1), 0)), (121, (.ireturn, 1, 0, 0, 0, 0, 0))]]
def tX6_show : List (List (Nat × E_)) := [[(0, (.aload_n 0, 1, 0, 0, 0, 0, 0)), (1, (.getfield 19, 3, 6, 1, 2, 17, 0)), (4, (.iload_n 1, 1, 1, 0, 0, 0, 0)), (5, (.invokevirtual 120, 3, 45, 4130, 1, 411, 0)), (8, (.ifCond .eq 14, 3, 22, 0, 0, 0, 0)), (11, (.aload_n 0, 1, 0, 0, 0, 0, 0)), (12, (.getfield 19, 3, 6, 1, 2, 17, 0)), (15, (.iload_n 2, 1, 2, 0, 0, 0, 0)), (16, (.invokevirtual 93, 3, 43, 4130, 1, 352, 0)), (19, (.ifCond .ne 5, 3, 24, 0, 0, 0, 0)), (22, (.iconst (-1), 1, 0, 0, 0, (-1), 0)), (23, (.ireturn, 1, 0, 0, 0, 0, 0)), (24, (.aload_n 0, 1, 0, 0, 0, 0, 0)), (25, (.getfield 29, 3, 6, 3, 19, 22, 0)), (28, (.getfield 148, 3, 1, 0, 0, 410, 0)), (31, (.bipush 24, 2, 0, 0, 0, 24, 0))],
  [(33, (.if_icmp .lt 6, 3, 39, 0, 0, 0, 0)), (36, (.bipush (-3), 2, 0, 0, 0, (-3), 0)), (38, (.ireturn, 1, 0, 0, 0, 0, 0)), (39, (.aload_n 0, 1, 0, 0, 0, 0, 0)), (40, (.iload_n 1, 1, 1, 0, 0, 0, 0)), (41, (.iload_n 2, 1, 2, 0, 0, 0, 0)), (42, (.iload_n 3, 1, 3, 0, 0, 0, 0)), (43, (.invokevirtual 151, 3, 111, 6228, 0, 412, 0)), (46, (.aload_n 0, 1, 0, 0, 0, 0, 0)), (47, (.getfield 29, 3, 6, 3, 19, 22, 0)), (50, (.getfield 148, 3, 1, 0, 0, 410, 0)), (53, (.ireturn, 1, 0, 0, 0, 0, 0))]]
def tX6_teach : List (List (Nat × E_)) := [[(0, (.aload_n 0, 1, 0, 0, 0, 0, 0)), (1, (.iload_n 1, 1, 1, 0, 0, 0, 0)), (2, (.iload_n 2, 1, 2, 0, 0, 0, 0)), (3, (.aload_n 0, 1, 0, 0, 0, 0, 0)), (4, (.getfield 19, 3, 6, 1, 2, 17, 0)), (7, (.iload_n 1, 1, 1, 0, 0, 0, 0)), (8, (.iload_n 2, 1, 2, 0, 0, 0, 0)), (9, (.invokevirtual 155, 3, 55, 4147, 1, 393, 0)), (12, (.invokevirtual 159, 3, 75, 6212, 1, 406, 0)), (15, (.ireturn, 1, 0, 0, 0, 0, 0))]]
def tX6_undo : List (List (Nat × E_)) := [[(0, (.aload_n 0, 1, 0, 0, 0, 0, 0)), (1, (.getfield 29, 3, 6, 3, 19, 22, 0)), (4, (.getfield 148, 3, 1, 0, 0, 410, 0)), (7, (.ifCond .gt 6, 3, 13, 0, 0, 0, 0)), (10, (.bipush (-4), 2, 0, 0, 0, (-4), 0)), (12, (.ireturn, 1, 0, 0, 0, 0, 0)), (13, (.aload_n 0, 1, 0, 0, 0, 0, 0)), (14, (.getfield 29, 3, 6, 3, 19, 22, 0)), (17, (.dup, 1, 0, 0, 0, 0, 0)), (18, (.getfield 148, 3, 1, 0, 0, 410, 0)), (21, (.iconst 1, 1, 0, 0, 0, 1, 0)), (22, (.isub, 1, 0, 0, 0, 0, 0)), (23, (.putfield 148, 3, 1, 0, 0, 410, 0)), (26, (.aload_n 0, 1, 0, 0, 0, 0, 0)), (27, (.invokevirtual 163, 3, 112, 6177, 0, 468, 0)), (30, (.aload_n 0, 1, 0, 0, 0, 0, 0)), (31, (.getfield 29, 3, 6, 3, 19, 22, 0))],
  [(34, (.getfield 148, 3, 1, 0, 0, 410, 0)), (37, (.ireturn, 1, 0, 0, 0, 0, 0))]]
def tX6_clear : List (List (Nat × E_)) := [[(0, (.aload_n 0, 1, 0, 0, 0, 0, 0)), (1, (.getfield 29, 3, 6, 3, 19, 22, 0)), (4, (.getfield 148, 3, 1, 0, 0, 410, 0)), (7, (.istore_n 1, 1, 1, 0, 0, 0, 0)), (8, (.aload_n 0, 1, 0, 0, 0, 0, 0)), (9, (.getfield 29, 3, 6, 3, 19, 22, 0)), (12, (.iconst 0, 1, 0, 0, 0, 0, 0)), (13, (.putfield 148, 3, 1, 0, 0, 410, 0)), (16, (.aload_n 0, 1, 0, 0, 0, 0, 0)), (17, (.getfield 29, 3, 6, 3, 19, 22, 0)), (20, (.aload_n 0, 1, 0, 0, 0, 0, 0)), (21, (.getfield 19, 3, 6, 1, 2, 17, 0)), (24, (.invokevirtual 166, 3, 50, 4113, 1, 419, 0)), (27, (.putfield 170, 3, 1, 4, 0, 492, 0)), (30, (.aload_n 0, 1, 0, 0, 0, 0, 0)), (31, (.invokevirtual 163, 3, 112, 6177, 0, 468, 0))],
  [(34, (.iload_n 1, 1, 1, 0, 0, 0, 0)), (35, (.ireturn, 1, 0, 0, 0, 0, 0))]]
def tX6_shown : List (List (Nat × E_)) := [[(0, (.iload_n 1, 1, 1, 0, 0, 0, 0)), (1, (.ifCond .lt 20, 3, 21, 0, 0, 0, 0)), (4, (.iload_n 1, 1, 1, 0, 0, 0, 0)), (5, (.aload_n 0, 1, 0, 0, 0, 0, 0)), (6, (.getfield 29, 3, 6, 3, 19, 22, 0)), (9, (.getfield 148, 3, 1, 0, 0, 410, 0)), (12, (.if_icmp .ge 9, 3, 21, 0, 0, 0, 0)), (15, (.iload_n 1, 1, 1, 0, 0, 0, 0)), (16, (.bipush 24, 2, 0, 0, 0, 24, 0)), (18, (.if_icmp .lt 5, 3, 23, 0, 0, 0, 0)), (21, (.iconst (-1), 1, 0, 0, 0, (-1), 0)), (22, (.ireturn, 1, 0, 0, 0, 0, 0)), (23, (.iload_n 2, 1, 2, 0, 0, 0, 0)), (24, (.tableswitch 66 0 2 #[28, 38, 48], 28, 3, 0, 0, 0, 0))],
  [(52, (.aload_n 0, 1, 0, 0, 0, 0, 0)), (53, (.getfield 29, 3, 6, 3, 19, 22, 0)), (56, (.getfield 173, 3, 1, 1, 1, 416, 0)), (59, (.iload_n 1, 1, 1, 0, 0, 0, 0)), (60, (.iaload, 1, 0, 0, 0, 0, 0)), (61, (.ireturn, 1, 0, 0, 0, 0, 0)), (62, (.aload_n 0, 1, 0, 0, 0, 0, 0)), (63, (.getfield 29, 3, 6, 3, 19, 22, 0))],
  [(66, (.getfield 176, 3, 1, 2, 1, 417, 0)), (69, (.iload_n 1, 1, 1, 0, 0, 0, 0)), (70, (.iaload, 1, 0, 0, 0, 0, 0)), (71, (.ireturn, 1, 0, 0, 0, 0, 0)), (72, (.aload_n 0, 1, 0, 0, 0, 0, 0)), (73, (.getfield 29, 3, 6, 3, 19, 22, 0)), (76, (.getfield 179, 3, 1, 3, 1, 418, 0)), (79, (.iload_n 1, 1, 1, 0, 0, 0, 0)), (80, (.baload, 1, 0, 0, 0, 0, 0)), (81, (.ifCond .eq 7, 3, 88, 0, 0, 0, 0)), (84, (.iconst 1, 1, 0, 0, 0, 1, 0)), (85, (.goto 4, 3, 89, 0, 0, 0, 0)), (88, (.iconst 0, 1, 0, 0, 0, 0, 0)), (89, (.ireturn, 1, 0, 0, 0, 0, 0)), (90, (.iconst (-1), 1, 0, 0, 0, (-1), 0)), (91, (.ireturn, 1, 0, 0, 0, 0, 0))]]
def tX6_thinks : List (List (Nat × E_)) := [[(0, (.aload_n 0, 1, 0, 0, 0, 0, 0)), (1, (.getfield 19, 3, 6, 1, 2, 17, 0)), (4, (.iload_n 1, 1, 1, 0, 0, 0, 0)), (5, (.invokevirtual 126, 3, 46, 4130, 1, 385, 0)), (8, (.ifCond .eq 26, 3, 34, 0, 0, 0, 0)), (11, (.aload_n 0, 1, 0, 0, 0, 0, 0)), (12, (.getfield 19, 3, 6, 1, 2, 17, 0)), (15, (.iload_n 2, 1, 2, 0, 0, 0, 0)), (16, (.invokevirtual 120, 3, 45, 4130, 1, 411, 0)), (19, (.ifCond .eq 15, 3, 34, 0, 0, 0, 0)), (22, (.aload_n 0, 1, 0, 0, 0, 0, 0)), (23, (.getfield 40, 3, 6, 5, 3, 27, 0)), (26, (.iload_n 1, 1, 1, 0, 0, 0, 0)), (27, (.iload_n 2, 1, 2, 0, 0, 0, 0)), (28, (.invokevirtual 182, 3, 7, 67, 1, 533, 0)), (31, (.goto 4, 3, 35, 0, 0, 0, 0))],
  [(34, (.iconst (-1), 1, 0, 0, 0, (-1), 0)), (35, (.ireturn, 1, 0, 0, 0, 0, 0))]]
def tX6_fits : List (List (Nat × E_)) := [[(0, (.aload_n 0, 1, 0, 0, 0, 0, 0)), (1, (.getfield 19, 3, 6, 1, 2, 17, 0)), (4, (.iload_n 1, 1, 1, 0, 0, 0, 0)), (5, (.invokevirtual 126, 3, 46, 4130, 1, 385, 0)), (8, (.ifCond .eq 36, 3, 44, 0, 0, 0, 0)), (11, (.aload_n 0, 1, 0, 0, 0, 0, 0)), (12, (.getfield 19, 3, 6, 1, 2, 17, 0)), (15, (.iload_n 2, 1, 2, 0, 0, 0, 0)), (16, (.invokevirtual 120, 3, 45, 4130, 1, 411, 0)), (19, (.ifCond .eq 25, 3, 44, 0, 0, 0, 0)), (22, (.aload_n 0, 1, 0, 0, 0, 0, 0)), (23, (.getfield 40, 3, 6, 5, 3, 27, 0)), (26, (.getfield 186, 3, 0, 5, 1, 555, 0)), (29, (.iload_n 2, 1, 2, 0, 0, 0, 0)), (30, (.iaload, 1, 0, 0, 0, 0, 0)), (31, (.aload_n 0, 1, 0, 0, 0, 0, 0))],
  [(32, (.getfield 19, 3, 6, 1, 2, 17, 0)), (35, (.getfield 145, 3, 4, 18, 1, 384, 0)), (38, (.iload_n 1, 1, 1, 0, 0, 0, 0)), (39, (.iaload, 1, 0, 0, 0, 0, 0)), (40, (.iand, 1, 0, 0, 0, 0, 0)), (41, (.goto 4, 3, 45, 0, 0, 0, 0)), (44, (.iconst (-1), 1, 0, 0, 0, (-1), 0)), (45, (.ireturn, 1, 0, 0, 0, 0, 0))]]
def tX6_same : List (List (Nat × E_)) := [[(0, (.aload_n 0, 1, 0, 0, 0, 0, 0)), (1, (.getfield 19, 3, 6, 1, 2, 17, 0)), (4, (.iload_n 1, 1, 1, 0, 0, 0, 0)), (5, (.invokevirtual 126, 3, 46, 4130, 1, 385, 0)), (8, (.ifCond .eq 14, 3, 22, 0, 0, 0, 0)), (11, (.aload_n 0, 1, 0, 0, 0, 0, 0)), (12, (.getfield 19, 3, 6, 1, 2, 17, 0)), (15, (.iload_n 2, 1, 2, 0, 0, 0, 0)), (16, (.invokevirtual 120, 3, 45, 4130, 1, 411, 0)), (19, (.ifCond .ne 5, 3, 24, 0, 0, 0, 0)), (22, (.iconst (-1), 1, 0, 0, 0, (-1), 0)), (23, (.ireturn, 1, 0, 0, 0, 0, 0)), (24, (.aload_n 0, 1, 0, 0, 0, 0, 0)), (25, (.getfield 40, 3, 6, 5, 3, 27, 0)), (28, (.aload_n 0, 1, 0, 0, 0, 0, 0)), (29, (.getfield 19, 3, 6, 1, 2, 17, 0))],
  [(32, (.iload_n 1, 1, 1, 0, 0, 0, 0)), (33, (.iload_n 2, 1, 2, 0, 0, 0, 0)), (34, (.invokevirtual 189, 3, 8, 68, 1, 543, 0)), (37, (.ifCond .eq 7, 3, 44, 0, 0, 0, 0)), (40, (.iconst 1, 1, 0, 0, 0, 1, 0)), (41, (.goto 4, 3, 45, 0, 0, 0, 0)), (44, (.iconst 0, 1, 0, 0, 0, 0, 0)), (45, (.ireturn, 1, 0, 0, 0, 0, 0))]]
def tX6_fled : List (List (Nat × E_)) := [[(0, (.aload_n 0, 1, 0, 0, 0, 0, 0)), (1, (.getfield 19, 3, 6, 1, 2, 17, 0)), (4, (.iload_n 1, 1, 1, 0, 0, 0, 0)), (5, (.invokevirtual 126, 3, 46, 4130, 1, 385, 0)), (8, (.ifCond .eq 15, 3, 23, 0, 0, 0, 0)), (11, (.aload_n 0, 1, 0, 0, 0, 0, 0)), (12, (.getfield 40, 3, 6, 5, 3, 27, 0)), (15, (.getfield 193, 3, 0, 4, 1, 560, 0)), (18, (.iload_n 1, 1, 1, 0, 0, 0, 0)), (19, (.iaload, 1, 0, 0, 0, 0, 0)), (20, (.goto 4, 3, 24, 0, 0, 0, 0)), (23, (.iconst (-1), 1, 0, 0, 0, (-1), 0)), (24, (.ireturn, 1, 0, 0, 0, 0, 0))]]
def tX6_against : List (List (Nat × E_)) := [[(0, (.aload_n 0, 1, 0, 0, 0, 0, 0)), (1, (.getfield 19, 3, 6, 1, 2, 17, 0)), (4, (.iload_n 1, 1, 1, 0, 0, 0, 0)), (5, (.invokevirtual 126, 3, 46, 4130, 1, 385, 0)), (8, (.ifCond .eq 30, 3, 38, 0, 0, 0, 0)), (11, (.aload_n 0, 1, 0, 0, 0, 0, 0)), (12, (.getfield 19, 3, 6, 1, 2, 17, 0)), (15, (.iload_n 2, 1, 2, 0, 0, 0, 0)), (16, (.invokevirtual 120, 3, 45, 4130, 1, 411, 0)), (19, (.ifCond .eq 19, 3, 38, 0, 0, 0, 0)), (22, (.aload_n 0, 1, 0, 0, 0, 0, 0)), (23, (.getfield 40, 3, 6, 5, 3, 27, 0)), (26, (.getfield 196, 3, 0, 2, 1, 538, 0)), (29, (.iload_n 1, 1, 1, 0, 0, 0, 0)), (30, (.iconst 4, 1, 0, 0, 0, 4, 0)), (31, (.imul, 1, 0, 0, 0, 0, 0))],
  [(32, (.iload_n 2, 1, 2, 0, 0, 0, 0)), (33, (.iadd, 1, 0, 0, 0, 0, 0)), (34, (.iaload, 1, 0, 0, 0, 0, 0)), (35, (.goto 4, 3, 39, 0, 0, 0, 0)), (38, (.iconst (-1), 1, 0, 0, 0, (-1), 0)), (39, (.ireturn, 1, 0, 0, 0, 0, 0))]]
def tX6_common : List (List (Nat × E_)) := [[(0, (.aload_n 0, 1, 0, 0, 0, 0, 0)), (1, (.getfield 19, 3, 6, 1, 2, 17, 0)), (4, (.iload_n 1, 1, 1, 0, 0, 0, 0)), (5, (.invokevirtual 199, 3, 47, 4130, 1, 592, 0)), (8, (.ifCond .ne 5, 3, 13, 0, 0, 0, 0)), (11, (.iconst (-1), 1, 0, 0, 0, (-1), 0)), (12, (.ireturn, 1, 0, 0, 0, 0, 0)), (13, (.iconst 0, 1, 0, 0, 0, 0, 0)), (14, (.istore_n 2, 1, 2, 0, 0, 0, 0)), (15, (.iconst 0, 1, 0, 0, 0, 0, 0)), (16, (.istore_n 3, 1, 3, 0, 0, 0, 0)), (17, (.iload_n 3, 1, 3, 0, 0, 0, 0)), (18, (.aload_n 0, 1, 0, 0, 0, 0, 0)), (19, (.getfield 19, 3, 6, 1, 2, 17, 0)), (22, (.getfield 202, 3, 4, 2, 0, 514, 0)), (25, (.if_icmp .ge 31, 3, 56, 0, 0, 0, 0)), (28, (.aload_n 0, 1, 0, 0, 0, 0, 0)), (29, (.getfield 40, 3, 6, 5, 3, 27, 0))],
  [(32, (.aload_n 0, 1, 0, 0, 0, 0, 0)), (33, (.getfield 19, 3, 6, 1, 2, 17, 0)), (36, (.iload_n 1, 1, 1, 0, 0, 0, 0)), (37, (.iload_n 3, 1, 3, 0, 0, 0, 0)), (38, (.invokevirtual 205, 3, 9, 84, 1, 596, 0)), (41, (.ifCond .eq 9, 3, 50, 0, 0, 0, 0)), (44, (.iload_n 2, 1, 2, 0, 0, 0, 0)), (45, (.iconst 1, 1, 0, 0, 0, 1, 0)), (46, (.iload_n 3, 1, 3, 0, 0, 0, 0)), (47, (.ishl, 1, 0, 0, 0, 0, 0)), (48, (.ior, 1, 0, 0, 0, 0, 0)), (49, (.istore_n 2, 1, 2, 0, 0, 0, 0)), (50, (.iinc 3 1, 3, 3, 0, 0, 1, 0)), (53, (.goto (-36), 3, 17, 0, 0, 0, 0)), (56, (.iload_n 2, 1, 2, 0, 0, 0, 0)), (57, (.ireturn, 1, 0, 0, 0, 0, 0))]]
def tX6_answer : List (List (Nat × E_)) := [[(0, (.aload_n 0, 1, 0, 0, 0, 0, 0)), (1, (.getfield 19, 3, 6, 1, 2, 17, 0)), (4, (.iload_n 1, 1, 1, 0, 0, 0, 0)), (5, (.invokevirtual 126, 3, 46, 4130, 1, 385, 0)), (8, (.ifCond .eq 25, 3, 33, 0, 0, 0, 0)), (11, (.aload_n 0, 1, 0, 0, 0, 0, 0)), (12, (.getfield 19, 3, 6, 1, 2, 17, 0)), (15, (.iload_n 2, 1, 2, 0, 0, 0, 0)), (16, (.invokevirtual 120, 3, 45, 4130, 1, 411, 0)), (19, (.ifCond .eq 14, 3, 33, 0, 0, 0, 0)), (22, (.aload_n 0, 1, 0, 0, 0, 0, 0)), (23, (.getfield 19, 3, 6, 1, 2, 17, 0)), (26, (.iload_n 3, 1, 3, 0, 0, 0, 0)), (27, (.invokevirtual 93, 3, 43, 4130, 1, 352, 0)), (30, (.ifCond .ne 5, 3, 35, 0, 0, 0, 0))],
  [(33, (.iconst (-1), 1, 0, 0, 0, (-1), 0)), (34, (.ireturn, 1, 0, 0, 0, 0, 0)), (35, (.aload_n 0, 1, 0, 0, 0, 0, 0)), (36, (.getfield 40, 3, 6, 5, 3, 27, 0)), (39, (.aload_n 0, 1, 0, 0, 0, 0, 0)), (40, (.getfield 19, 3, 6, 1, 2, 17, 0)), (43, (.iload_n 1, 1, 1, 0, 0, 0, 0)), (44, (.iload_n 2, 1, 2, 0, 0, 0, 0)), (45, (.iload_n 3, 1, 3, 0, 0, 0, 0)), (46, (.invokevirtual 260, 3, 11, 101, 1, 565, 0)), (49, (.ireturn, 1, 0, 0, 0, 0, 0))]]
def tX6_likely : List (List (Nat × E_)) := [[(0, (.aload_n 0, 1, 0, 0, 0, 0, 0)), (1, (.getfield 19, 3, 6, 1, 2, 17, 0)), (4, (.iload_n 1, 1, 1, 0, 0, 0, 0)), (5, (.invokevirtual 120, 3, 45, 4130, 1, 411, 0)), (8, (.ifCond .eq 12, 3, 20, 0, 0, 0, 0)), (11, (.iload_n 2, 1, 2, 0, 0, 0, 0)), (12, (.ifCond .lt 8, 3, 20, 0, 0, 0, 0)), (15, (.iload_n 2, 1, 2, 0, 0, 0, 0)), (16, (.iconst 1, 1, 0, 0, 0, 1, 0)), (17, (.if_icmp .le 5, 3, 22, 0, 0, 0, 0)), (20, (.iconst (-1), 1, 0, 0, 0, (-1), 0)), (21, (.ireturn, 1, 0, 0, 0, 0, 0)), (22, (.aload_n 0, 1, 0, 0, 0, 0, 0)), (23, (.getfield 19, 3, 6, 1, 2, 17, 0)), (26, (.aload_n 0, 1, 0, 0, 0, 0, 0)), (27, (.getfield 19, 3, 6, 1, 2, 17, 0)), (30, (.invokevirtual 166, 3, 50, 4113, 1, 419, 0))],
  [(33, (.invokevirtual 251, 3, 58, 4162, 1, 575, 0)), (36, (.istore_n 3, 1, 3, 0, 0, 0, 0)), (37, (.iload_n 3, 1, 3, 0, 0, 0, 0)), (38, (.ifCond .ne 6, 3, 44, 0, 0, 0, 0)), (41, (.bipush (-4), 2, 0, 0, 0, (-4), 0)), (43, (.ireturn, 1, 0, 0, 0, 0, 0)), (44, (.aload_n 0, 1, 0, 0, 0, 0, 0)), (45, (.getfield 40, 3, 6, 5, 3, 27, 0)), (48, (.aload_n 0, 1, 0, 0, 0, 0, 0)), (49, (.getfield 19, 3, 6, 1, 2, 17, 0)), (52, (.iload_n 1, 1, 1, 0, 0, 0, 0)), (53, (.invokevirtual 278, 3, 10, 83, 1, 579, 0)), (56, (.iload_n 3, 1, 3, 0, 0, 0, 0)), (57, (.iload_n 2, 1, 2, 0, 0, 0, 0)), (58, (.iconst 1, 1, 0, 0, 0, 1, 0)), (59, (.if_icmp .ne 7, 3, 66, 0, 0, 0, 0)), (62, (.iconst 1, 1, 0, 0, 0, 1, 0)), (63, (.goto 4, 3, 67, 0, 0, 0, 0))],
  [(66, (.iconst 0, 1, 0, 0, 0, 0, 0)), (67, (.invokestatic 254, 3, 110, 115, 1, 585, 0)), (70, (.ireturn, 1, 0, 0, 0, 0, 0))]]
def tX6_keep : List (List (Nat × E_)) := [[(0, (.iload_n 1, 1, 1, 0, 0, 0, 0)), (1, (.ifCond .lt 8, 3, 9, 0, 0, 0, 0)), (4, (.iload_n 1, 1, 1, 0, 0, 0, 0)), (5, (.iconst 2, 1, 0, 0, 0, 2, 0)), (6, (.if_icmp .lt 5, 3, 11, 0, 0, 0, 0)), (9, (.iconst (-1), 1, 0, 0, 0, (-1), 0)), (10, (.ireturn, 1, 0, 0, 0, 0, 0)), (11, (.aload_n 0, 1, 0, 0, 0, 0, 0)), (12, (.getfield 33, 3, 6, 4, 1, 23, 0)), (15, (.iload_n 1, 1, 1, 0, 0, 0, 0)), (16, (.aaload, 1, 0, 0, 0, 0, 0)), (17, (.getfield 76, 3, 1, 8, 0, 160, 0)), (20, (.ifCond .eq 7, 3, 27, 0, 0, 0, 0)), (23, (.iconst 1, 1, 0, 0, 0, 1, 0)), (24, (.goto 4, 3, 28, 0, 0, 0, 0)), (27, (.iconst 0, 1, 0, 0, 0, 0, 0)), (28, (.istore_n 2, 1, 2, 0, 0, 0, 0)), (29, (.aload_n 0, 1, 0, 0, 0, 0, 0)), (30, (.getfield 33, 3, 6, 4, 1, 23, 0))],
  [(33, (.iload_n 1, 1, 1, 0, 0, 0, 0)), (34, (.aaload, 1, 0, 0, 0, 0, 0)), (35, (.aload_n 0, 1, 0, 0, 0, 0, 0)), (36, (.getfield 29, 3, 6, 3, 19, 22, 0)), (39, (.invokevirtual 308, 3, 14, 1074, 0, 476, 0)), (42, (.aload_n 0, 1, 0, 0, 0, 0, 0)), (43, (.getfield 33, 3, 6, 4, 1, 23, 0)), (46, (.iload_n 1, 1, 1, 0, 0, 0, 0)), (47, (.aaload, 1, 0, 0, 0, 0, 0)), (48, (.iconst 1, 1, 0, 0, 0, 1, 0)), (49, (.putfield 76, 3, 1, 8, 1, 160, 0)), (52, (.iload_n 2, 1, 2, 0, 0, 0, 0)), (53, (.ireturn, 1, 0, 0, 0, 0, 0))]]
def tX6_back : List (List (Nat × E_)) := [[(0, (.iload_n 1, 1, 1, 0, 0, 0, 0)), (1, (.ifCond .lt 8, 3, 9, 0, 0, 0, 0)), (4, (.iload_n 1, 1, 1, 0, 0, 0, 0)), (5, (.iconst 2, 1, 0, 0, 0, 2, 0)), (6, (.if_icmp .lt 5, 3, 11, 0, 0, 0, 0)), (9, (.iconst (-1), 1, 0, 0, 0, (-1), 0)), (10, (.ireturn, 1, 0, 0, 0, 0, 0)), (11, (.aload_n 0, 1, 0, 0, 0, 0, 0)), (12, (.getfield 33, 3, 6, 4, 1, 23, 0)), (15, (.iload_n 1, 1, 1, 0, 0, 0, 0)), (16, (.aaload, 1, 0, 0, 0, 0, 0)), (17, (.getfield 76, 3, 1, 8, 0, 160, 0)), (20, (.ifCond .ne 6, 3, 26, 0, 0, 0, 0)), (23, (.bipush (-2), 2, 0, 0, 0, (-2), 0)), (25, (.ireturn, 1, 0, 0, 0, 0, 0)), (26, (.aload_n 0, 1, 0, 0, 0, 0, 0)), (27, (.getfield 29, 3, 6, 3, 19, 22, 0)), (30, (.aload_n 0, 1, 0, 0, 0, 0, 0)), (31, (.getfield 33, 3, 6, 4, 1, 23, 0))],
  [(34, (.iload_n 1, 1, 1, 0, 0, 0, 0)), (35, (.aaload, 1, 0, 0, 0, 0, 0)), (36, (.invokevirtual 308, 3, 14, 1074, 0, 476, 0)), (39, (.aload_n 0, 1, 0, 0, 0, 0, 0)), (40, (.invokevirtual 163, 3, 112, 6177, 0, 468, 0)), (43, (.aload_n 0, 1, 0, 0, 0, 0, 0)), (44, (.getfield 29, 3, 6, 3, 19, 22, 0)), (47, (.getfield 148, 3, 1, 0, 0, 410, 0)), (50, (.ireturn, 1, 0, 0, 0, 0, 0))]]
def tX6_count : List (List (Nat × E_)) := [[(0, (.iload_n 1, 1, 1, 0, 0, 0, 0)), (1, (.tableswitch 122 0 8 #[51, 59, 67, 75, 83, 91, 99, 104, 112], 51, 4, 0, 0, 0, 0))],
  [(52, (.aload_n 0, 1, 0, 0, 0, 0, 0)), (53, (.getfield 19, 3, 6, 1, 2, 17, 0)), (56, (.getfield 242, 3, 4, 0, 0, 512, 0)), (59, (.ireturn, 1, 0, 0, 0, 0, 0)), (60, (.aload_n 0, 1, 0, 0, 0, 0, 0)), (61, (.getfield 19, 3, 6, 1, 2, 17, 0))],
  [(64, (.getfield 334, 3, 4, 1, 0, 513, 0)), (67, (.ireturn, 1, 0, 0, 0, 0, 0)), (68, (.aload_n 0, 1, 0, 0, 0, 0, 0)), (69, (.getfield 19, 3, 6, 1, 2, 17, 0)), (72, (.getfield 202, 3, 4, 2, 0, 514, 0)), (75, (.ireturn, 1, 0, 0, 0, 0, 0)), (76, (.aload_n 0, 1, 0, 0, 0, 0, 0)), (77, (.getfield 19, 3, 6, 1, 2, 17, 0)), (80, (.getfield 305, 3, 4, 3, 0, 515, 0)), (83, (.ireturn, 1, 0, 0, 0, 0, 0)), (84, (.aload_n 0, 1, 0, 0, 0, 0, 0)), (85, (.getfield 29, 3, 6, 3, 19, 22, 0)), (88, (.getfield 148, 3, 1, 0, 0, 410, 0)), (91, (.ireturn, 1, 0, 0, 0, 0, 0)), (92, (.aload_n 0, 1, 0, 0, 0, 0, 0)), (93, (.getfield 29, 3, 6, 3, 19, 22, 0))],
  [(96, (.getfield 282, 3, 1, 5, 0, 516, 0)), (99, (.ireturn, 1, 0, 0, 0, 0, 0)), (100, (.aload_n 0, 1, 0, 0, 0, 0, 0)), (101, (.invokevirtual 337, 3, 120, 6193, 1, 518, 0)), (104, (.ireturn, 1, 0, 0, 0, 0, 0)), (105, (.aload_n 0, 1, 0, 0, 0, 0, 0)), (106, (.getfield 10, 3, 6, 0, 51, 13, 0)), (109, (.getfield 61, 3, 3, 1, 0, 136, 0)), (112, (.ireturn, 1, 0, 0, 0, 0, 0)), (113, (.aload_n 0, 1, 0, 0, 0, 0, 0)), (114, (.getfield 57, 3, 6, 8, 35, 36, 0)), (117, (.getfield 340, 3, 2, 0, 1, 517, 0)), (120, (.iconst 0, 1, 0, 0, 0, 0, 0)), (121, (.iaload, 1, 0, 0, 0, 0, 0)), (122, (.ireturn, 1, 0, 0, 0, 0, 0)), (123, (.iconst (-1), 1, 0, 0, 0, (-1), 0)), (124, (.ireturn, 1, 0, 0, 0, 0, 0))]]
def tX6_isIn : List (List (Nat × E_)) := [[(0, (.iload_n 0, 1, 0, 0, 0, 0, 0)), (1, (.ifCond .lt 22, 3, 23, 0, 0, 0, 0)), (4, (.iload_n 0, 1, 0, 0, 0, 0, 0)), (5, (.bipush 31, 2, 0, 0, 0, 31, 0)), (7, (.if_icmp .ge 16, 3, 23, 0, 0, 0, 0)), (10, (.iload_n 1, 1, 1, 0, 0, 0, 0)), (11, (.iload_n 0, 1, 0, 0, 0, 0, 0)), (12, (.ishr, 1, 0, 0, 0, 0, 0)), (13, (.iconst 1, 1, 0, 0, 0, 1, 0)), (14, (.iand, 1, 0, 0, 0, 0, 0)), (15, (.iconst 1, 1, 0, 0, 0, 1, 0)), (16, (.if_icmp .ne 7, 3, 23, 0, 0, 0, 0)), (19, (.iconst 1, 1, 0, 0, 0, 1, 0)), (20, (.goto 4, 3, 24, 0, 0, 0, 0)), (23, (.iconst 0, 1, 0, 0, 0, 0, 0)), (24, (.ireturn, 1, 0, 0, 1, 0, 0))]]
def tX6_ofLowestTerms : List (List (Nat × E_)) := [[(0, (.iload_n 1, 1, 1, 0, 0, 0, 0)), (1, (.istore_n 3, 1, 3, 0, 0, 0, 0)), (2, (.iload_n 0, 1, 0, 0, 0, 0, 0)), (3, (.istore 4, 2, 4, 0, 0, 0, 0)), (5, (.iconst 0, 1, 0, 0, 0, 0, 0)), (6, (.istore 5, 2, 5, 0, 0, 0, 0)), (8, (.iload 5, 2, 5, 0, 0, 0, 0)), (10, (.bipush 64, 2, 0, 0, 0, 64, 0)), (12, (.if_icmp .ge 27, 3, 39, 0, 0, 0, 0)), (15, (.iload 4, 2, 4, 0, 0, 0, 0)), (17, (.ifCond .eq 22, 3, 39, 0, 0, 0, 0)), (20, (.iload_n 3, 1, 3, 0, 0, 0, 0)), (21, (.iload 4, 2, 4, 0, 0, 0, 0)), (23, (.irem, 1, 0, 0, 0, 0, 0)), (24, (.istore 6, 2, 6, 0, 0, 0, 0)), (26, (.iload 4, 2, 4, 0, 0, 0, 0)), (28, (.istore_n 3, 1, 3, 0, 0, 0, 0)), (29, (.iload 6, 2, 6, 0, 0, 0, 0)), (31, (.istore 4, 2, 4, 0, 0, 0, 0))],
  [(33, (.iinc 5 1, 3, 5, 0, 0, 1, 0)), (36, (.goto (-28), 3, 8, 0, 0, 0, 0)), (39, (.iload_n 3, 1, 3, 0, 0, 0, 0)), (40, (.ifCond .ne 5, 3, 45, 0, 0, 0, 0)), (43, (.iconst 0, 1, 0, 0, 0, 0, 0)), (44, (.ireturn, 1, 0, 0, 0, 0, 0)), (45, (.iload_n 2, 1, 2, 0, 0, 0, 0)), (46, (.ifCond .eq 9, 3, 55, 0, 0, 0, 0)), (49, (.iload_n 1, 1, 1, 0, 0, 0, 0)), (50, (.iload_n 3, 1, 3, 0, 0, 0, 0)), (51, (.idiv, 1, 0, 0, 0, 0, 0)), (52, (.goto 6, 3, 58, 0, 0, 0, 0)), (55, (.iload_n 0, 1, 0, 0, 0, 0, 0)), (56, (.iload_n 3, 1, 3, 0, 0, 0, 0)), (57, (.idiv, 1, 0, 0, 0, 0, 0)), (58, (.ireturn, 1, 0, 0, 0, 0, 0))]]
def tX6_takeShowing : List (List (Nat × E_)) := [[(0, (.aload_n 0, 1, 0, 0, 0, 0, 0)), (1, (.getfield 29, 3, 6, 3, 19, 22, 0)), (4, (.getfield 148, 3, 1, 0, 0, 410, 0)), (7, (.istore 4, 2, 4, 0, 0, 0, 0)), (9, (.iload 4, 2, 4, 0, 0, 0, 0)), (11, (.ifCond .lt 10, 3, 21, 0, 0, 0, 0)), (14, (.iload 4, 2, 4, 0, 0, 0, 0)), (16, (.bipush 24, 2, 0, 0, 0, 24, 0)), (18, (.if_icmp .lt 4, 3, 22, 0, 0, 0, 0)), (21, (.return_, 1, 0, 0, 0, 0, 0)), (22, (.aload_n 0, 1, 0, 0, 0, 0, 0)), (23, (.getfield 29, 3, 6, 3, 19, 22, 0)), (26, (.getfield 173, 3, 1, 1, 1, 416, 0)), (29, (.iload 4, 2, 4, 0, 0, 0, 0)), (31, (.iload_n 1, 1, 1, 0, 0, 0, 0))],
  [(32, (.iastore, 1, 0, 0, 0, 0, 0)), (33, (.aload_n 0, 1, 0, 0, 0, 0, 0)), (34, (.getfield 29, 3, 6, 3, 19, 22, 0)), (37, (.getfield 176, 3, 1, 2, 1, 417, 0)), (40, (.iload 4, 2, 4, 0, 0, 0, 0)), (42, (.iload_n 2, 1, 2, 0, 0, 0, 0)), (43, (.iastore, 1, 0, 0, 0, 0, 0)), (44, (.aload_n 0, 1, 0, 0, 0, 0, 0)), (45, (.getfield 29, 3, 6, 3, 19, 22, 0)), (48, (.getfield 179, 3, 1, 3, 1, 418, 0)), (51, (.iload 4, 2, 4, 0, 0, 0, 0)), (53, (.iload_n 3, 1, 3, 0, 0, 0, 0)), (54, (.bastore, 1, 0, 0, 0, 0, 0)), (55, (.aload_n 0, 1, 0, 0, 0, 0, 0)), (56, (.getfield 29, 3, 6, 3, 19, 22, 0)), (59, (.dup, 1, 0, 0, 0, 0, 0)), (60, (.getfield 148, 3, 1, 0, 0, 410, 0)), (63, (.iconst 1, 1, 0, 0, 0, 1, 0))],
  [(64, (.iadd, 1, 0, 0, 0, 0, 0)), (65, (.putfield 148, 3, 1, 0, 0, 410, 0)), (68, (.aload_n 0, 1, 0, 0, 0, 0, 0)), (69, (.getfield 40, 3, 6, 5, 3, 27, 0)), (72, (.aload_n 0, 1, 0, 0, 0, 0, 0)), (73, (.getfield 19, 3, 6, 1, 2, 17, 0)), (76, (.aload_n 0, 1, 0, 0, 0, 0, 0)), (77, (.getfield 19, 3, 6, 1, 2, 17, 0)), (80, (.invokevirtual 166, 3, 50, 4113, 1, 419, 0)), (83, (.iload_n 1, 1, 1, 0, 0, 0, 0)), (84, (.iload_n 2, 1, 2, 0, 0, 0, 0)), (85, (.iload_n 3, 1, 3, 0, 0, 0, 0)), (86, (.invokevirtual 343, 3, 2, 150, 1, 420, 0)), (89, (.pop, 1, 0, 0, 0, 0, 0)), (90, (.return_, 1, 0, 0, 0, 0, 0))]]
def tX6_thinkAgain : List (List (Nat × E_)) := [[(0, (.aload_n 0, 1, 0, 0, 0, 0, 0)), (1, (.getfield 40, 3, 6, 5, 3, 27, 0)), (4, (.aload_n 0, 1, 0, 0, 0, 0, 0)), (5, (.getfield 19, 3, 6, 1, 2, 17, 0)), (8, (.invokevirtual 84, 3, 0, 50, 0, 338, 0)), (11, (.iconst 0, 1, 0, 0, 0, 0, 0)), (12, (.istore_n 1, 1, 1, 0, 0, 0, 0)), (13, (.iload_n 1, 1, 1, 0, 0, 0, 0)), (14, (.aload_n 0, 1, 0, 0, 0, 0, 0)), (15, (.getfield 29, 3, 6, 3, 19, 22, 0)), (18, (.getfield 148, 3, 1, 0, 0, 410, 0)), (21, (.if_icmp .ge 61, 3, 82, 0, 0, 0, 0)), (24, (.iload_n 1, 1, 1, 0, 0, 0, 0)), (25, (.bipush 24, 2, 0, 0, 0, 24, 0)), (27, (.if_icmp .ge 55, 3, 82, 0, 0, 0, 0)), (30, (.aload_n 0, 1, 0, 0, 0, 0, 0)), (31, (.getfield 40, 3, 6, 5, 3, 27, 0))],
  [(34, (.aload_n 0, 1, 0, 0, 0, 0, 0)), (35, (.getfield 19, 3, 6, 1, 2, 17, 0)), (38, (.aload_n 0, 1, 0, 0, 0, 0, 0)), (39, (.getfield 19, 3, 6, 1, 2, 17, 0)), (42, (.invokevirtual 166, 3, 50, 4113, 1, 419, 0)), (45, (.aload_n 0, 1, 0, 0, 0, 0, 0)), (46, (.getfield 29, 3, 6, 3, 19, 22, 0)), (49, (.getfield 173, 3, 1, 1, 1, 416, 0)), (52, (.iload_n 1, 1, 1, 0, 0, 0, 0)), (53, (.iaload, 1, 0, 0, 0, 0, 0)), (54, (.aload_n 0, 1, 0, 0, 0, 0, 0)), (55, (.getfield 29, 3, 6, 3, 19, 22, 0)), (58, (.getfield 176, 3, 1, 2, 1, 417, 0)), (61, (.iload_n 1, 1, 1, 0, 0, 0, 0)), (62, (.iaload, 1, 0, 0, 0, 0, 0)), (63, (.aload_n 0, 1, 0, 0, 0, 0, 0))],
  [(64, (.getfield 29, 3, 6, 3, 19, 22, 0)), (67, (.getfield 179, 3, 1, 3, 1, 418, 0)), (70, (.iload_n 1, 1, 1, 0, 0, 0, 0)), (71, (.baload, 1, 0, 0, 0, 0, 0)), (72, (.invokevirtual 343, 3, 2, 150, 1, 420, 0)), (75, (.pop, 1, 0, 0, 0, 0, 0)), (76, (.iinc 1 1, 3, 1, 0, 0, 1, 0)), (79, (.goto (-66), 3, 13, 0, 0, 0, 0)), (82, (.return_, 1, 0, 0, 0, 0, 0))]]
def tX6_imagesKept : List (List (Nat × E_)) := [[(0, (.iconst 0, 1, 0, 0, 0, 0, 0)), (1, (.istore_n 1, 1, 1, 0, 0, 0, 0)), (2, (.iconst 0, 1, 0, 0, 0, 0, 0)), (3, (.istore_n 2, 1, 2, 0, 0, 0, 0)), (4, (.iload_n 2, 1, 2, 0, 0, 0, 0)), (5, (.iconst 2, 1, 0, 0, 0, 2, 0)), (6, (.if_icmp .ge 24, 3, 30, 0, 0, 0, 0)), (9, (.aload_n 0, 1, 0, 0, 0, 0, 0)), (10, (.getfield 33, 3, 6, 4, 1, 23, 0)), (13, (.iload_n 2, 1, 2, 0, 0, 0, 0)), (14, (.aaload, 1, 0, 0, 0, 0, 0)), (15, (.getfield 76, 3, 1, 8, 0, 160, 0)), (18, (.ifCond .eq 6, 3, 24, 0, 0, 0, 0)), (21, (.iinc 1 1, 3, 1, 0, 0, 1, 0)), (24, (.iinc 2 1, 3, 2, 0, 0, 1, 0)), (27, (.goto (-23), 3, 4, 0, 0, 0, 0)), (30, (.iload_n 1, 1, 1, 0, 0, 0, 0)), (31, (.ireturn, 1, 0, 0, 0, 0, 0))]]
def tL_cell : List (List (Nat × E_)) := [[(0, (.iload_n 1, 1, 1, 0, 0, 0, 0)), (1, (.aload_n 0, 1, 0, 0, 0, 0, 0)), (2, (.arraylength, 1, 0, 0, 0, 0, 0)), (3, (.if_icmp .ge 9, 3, 12, 0, 0, 0, 0)), (6, (.aload_n 0, 1, 0, 0, 0, 0, 0)), (7, (.iload_n 1, 1, 1, 0, 0, 0, 0)), (8, (.iaload, 1, 0, 0, 0, 0, 0)), (9, (.goto 10, 3, 19, 0, 0, 0, 0)), (12, (.ldc 7, 2, 0, 119, 0, (15485863), 0)), (14, (.iload_n 1, 1, 1, 0, 0, 0, 0)), (15, (.imul, 1, 0, 0, 0, 0, 0)), (16, (.ldc 8, 2, 0, 120, 0, (32452843), 0)), (18, (.iadd, 1, 0, 0, 0, 0, 0)), (19, (.ireturn, 1, 0, 0, 0, 0, 0))]]
def tL_low : List (List (Nat × E_)) := [[(0, (.iload_n 0, 1, 0, 0, 0, 0, 0)), (1, (.ldc 9, 2, 0, 124, 0, (2147483647), 0)), (3, (.iand, 1, 0, 0, 0, 0, 0)), (4, (.iload_n 1, 1, 1, 0, 0, 0, 0)), (5, (.irem, 1, 0, 0, 0, 0, 0)), (6, (.ireturn, 1, 0, 0, 0, 0, 0))]]
def tL_put : List (List (Nat × E_)) := [[(0, (.aload_n 1, 1, 1, 0, 0, 0, 0)), (1, (.iconst 0, 1, 0, 0, 0, 0, 0)), (2, (.aload_n 1, 1, 1, 0, 0, 0, 0)), (3, (.iconst 0, 1, 0, 0, 0, 0, 0)), (4, (.laload, 1, 0, 0, 0, 0, 0)), (5, (.bipush 8, 2, 0, 0, 0, 8, 0)), (7, (.lshl, 1, 0, 0, 0, 0, 0)), (8, (.iload_n 2, 1, 2, 0, 0, 0, 0)), (9, (.i2l, 1, 0, 0, 0, 0, 0)), (10, (.lor, 1, 0, 0, 0, 0, 0)), (11, (.lastore, 1, 0, 0, 0, 0, 0)), (12, (.aload_n 1, 1, 1, 0, 0, 0, 0)), (13, (.iconst 1, 1, 0, 0, 0, 1, 0)), (14, (.dup2, 1, 0, 0, 0, 0, 0)), (15, (.laload, 1, 0, 0, 0, 0, 0)), (16, (.lconst 1, 1, 0, 0, 0, 0, 1)), (17, (.ladd, 1, 0, 0, 0, 0, 0)), (18, (.lastore, 1, 0, 0, 0, 0, 0)), (19, (.aload_n 1, 1, 1, 0, 0, 0, 0)), (20, (.iconst 1, 1, 0, 0, 0, 1, 0)), (21, (.laload, 1, 0, 0, 0, 0, 0)), (22, (.ldc2_w 10, 3, 0, 131, 0, 0, (8))), (25, (.lrem, 1, 0, 0, 0, 0, 0)), (26, (.lconst 0, 1, 0, 0, 0, 0, 0)), (27, (.lcmp, 1, 0, 0, 0, 0, 0)), (28, (.ifCond .ne 28, 3, 56, 0, 0, 0, 0)), (31, (.aload_n 1, 1, 1, 0, 0, 0, 0))],
  [(32, (.iconst 2, 1, 0, 0, 0, 2, 0)), (33, (.dup2, 1, 0, 0, 0, 0, 0)), (34, (.laload, 1, 0, 0, 0, 0, 0)), (35, (.aload_n 0, 1, 0, 0, 0, 0, 0)), (36, (.aload_n 1, 1, 1, 0, 0, 0, 0)), (37, (.iconst 0, 1, 0, 0, 0, 0, 0)), (38, (.laload, 1, 0, 0, 0, 0, 0)), (39, (.invokevirtual 12, 3, 67, 6210, 1, 132, 0)), (42, (.ifCond .ge 7, 3, 49, 0, 0, 0, 0)), (45, (.lconst 1, 1, 0, 0, 0, 0, 1)), (46, (.goto 4, 3, 50, 0, 0, 0, 0)), (49, (.lconst 0, 1, 0, 0, 0, 0, 0)), (50, (.ladd, 1, 0, 0, 0, 0, 0)), (51, (.lastore, 1, 0, 0, 0, 0, 0)), (52, (.aload_n 1, 1, 1, 0, 0, 0, 0)), (53, (.iconst 0, 1, 0, 0, 0, 0, 0)), (54, (.lconst 0, 1, 0, 0, 0, 0, 0)), (55, (.lastore, 1, 0, 0, 0, 0, 0)), (56, (.return_, 1, 0, 0, 0, 0, 0))]]
def tL_word : List (List (Nat × E_)) := [[(0, (.bipush 56, 2, 0, 0, 0, 56, 0)), (2, (.istore 4, 2, 4, 0, 0, 0, 0)), (4, (.iload 4, 2, 4, 0, 0, 0, 0)), (6, (.ifCond .lt 32, 3, 38, 0, 0, 0, 0)), (9, (.lload_n 2, 1, 2, 0, 0, 0, 0)), (10, (.iload 4, 2, 4, 0, 0, 0, 0)), (12, (.lshr, 1, 0, 0, 0, 0, 0)), (13, (.l2i, 1, 0, 0, 0, 0, 0)), (14, (.sipush 255, 3, 0, 0, 0, 255, 0)), (17, (.iand, 1, 0, 0, 0, 0, 0)), (18, (.istore 5, 2, 5, 0, 0, 0, 0)), (20, (.iload 5, 2, 5, 0, 0, 0, 0)), (22, (.ifCond .le 10, 3, 32, 0, 0, 0, 0)), (25, (.aload_n 0, 1, 0, 0, 0, 0, 0)), (26, (.aload_n 1, 1, 1, 0, 0, 0, 0)), (27, (.iload 5, 2, 5, 0, 0, 0, 0)), (29, (.invokestatic 18, 3, 123, 51, 0, 128, 0))],
  [(32, (.iinc 4 (-8), 3, 4, 0, 0, (-8), 0)), (35, (.goto (-31), 3, 4, 0, 0, 0, 0)), (38, (.return_, 1, 0, 0, 0, 0, 0))]]
def tL_ended : List (List (Nat × E_)) := [[(0, (.aload_n 1, 1, 1, 0, 0, 0, 0)), (1, (.iconst 1, 1, 0, 0, 0, 1, 0)), (2, (.laload, 1, 0, 0, 0, 0, 0)), (3, (.l2i, 1, 0, 0, 0, 0, 0)), (4, (.istore_n 2, 1, 2, 0, 0, 0, 0)), (5, (.aload_n 1, 1, 1, 0, 0, 0, 0)), (6, (.iconst 1, 1, 0, 0, 0, 1, 0)), (7, (.laload, 1, 0, 0, 0, 0, 0)), (8, (.ldc2_w 10, 3, 0, 131, 0, 0, (8))), (11, (.lrem, 1, 0, 0, 0, 0, 0)), (12, (.lconst 0, 1, 0, 0, 0, 0, 0)), (13, (.lcmp, 1, 0, 0, 0, 0, 0)), (14, (.ifCond .eq 13, 3, 27, 0, 0, 0, 0)), (17, (.aload_n 0, 1, 0, 0, 0, 0, 0)), (18, (.aload_n 1, 1, 1, 0, 0, 0, 0)), (19, (.bipush 32, 2, 0, 0, 0, 32, 0)), (21, (.invokestatic 18, 3, 123, 51, 0, 128, 0)), (24, (.goto (-19), 3, 5, 0, 0, 0, 0)), (27, (.aload_n 1, 1, 1, 0, 0, 0, 0)), (28, (.iconst 1, 1, 0, 0, 0, 1, 0)), (29, (.lconst 0, 1, 0, 0, 0, 0, 0)), (30, (.lastore, 1, 0, 0, 0, 0, 0)), (31, (.aload_n 1, 1, 1, 0, 0, 0, 0))],
  [(32, (.iconst 2, 1, 0, 0, 0, 2, 0)), (33, (.laload, 1, 0, 0, 0, 0, 0)), (34, (.lconst 0, 1, 0, 0, 0, 0, 0)), (35, (.lcmp, 1, 0, 0, 0, 0, 0)), (36, (.ifCond .ne 16, 3, 52, 0, 0, 0, 0)), (39, (.aload_n 0, 1, 0, 0, 0, 0, 0)), (40, (.iload_n 2, 1, 2, 0, 0, 0, 0)), (41, (.invokevirtual 24, 3, 68, 6194, 1, 151, 0)), (44, (.iload_n 2, 1, 2, 0, 0, 0, 0)), (45, (.if_icmp .lt 7, 3, 52, 0, 0, 0, 0)), (48, (.iconst 1, 1, 0, 0, 0, 1, 0)), (49, (.goto 4, 3, 53, 0, 0, 0, 0)), (52, (.iconst 0, 1, 0, 0, 0, 0, 0)), (53, (.ireturn, 1, 0, 0, 1, 0, 0))]]
def tL_number : List (List (Nat × E_)) := [[(0, (.aload_n 0, 1, 0, 0, 0, 0, 0)), (1, (.aload_n 1, 1, 1, 0, 0, 0, 0)), (2, (.bipush 32, 2, 0, 0, 0, 32, 0)), (4, (.invokestatic 18, 3, 123, 51, 0, 128, 0)), (7, (.iload_n 2, 1, 2, 0, 0, 0, 0)), (8, (.ifCond .ge 10, 3, 18, 0, 0, 0, 0)), (11, (.aload_n 0, 1, 0, 0, 0, 0, 0)), (12, (.aload_n 1, 1, 1, 0, 0, 0, 0)), (13, (.bipush 45, 2, 0, 0, 0, 45, 0)), (15, (.invokestatic 18, 3, 123, 51, 0, 128, 0)), (18, (.iload_n 2, 1, 2, 0, 0, 0, 0)), (19, (.ifCond .ge 8, 3, 27, 0, 0, 0, 0)), (22, (.iload_n 2, 1, 2, 0, 0, 0, 0)), (23, (.ineg, 1, 0, 0, 0, 0, 0)), (24, (.goto 4, 3, 28, 0, 0, 0, 0)), (27, (.iload_n 2, 1, 2, 0, 0, 0, 0)), (28, (.istore_n 3, 1, 3, 0, 0, 0, 0)), (29, (.sipush 1000, 3, 0, 0, 0, 1000, 0))],
  [(32, (.istore 4, 2, 4, 0, 0, 0, 0)), (34, (.iload 4, 2, 4, 0, 0, 0, 0)), (36, (.ifCond .le 40, 3, 76, 0, 0, 0, 0)), (39, (.iload_n 3, 1, 3, 0, 0, 0, 0)), (40, (.iload 4, 2, 4, 0, 0, 0, 0)), (42, (.if_icmp .ge 9, 3, 51, 0, 0, 0, 0)), (45, (.iload 4, 2, 4, 0, 0, 0, 0)), (47, (.iconst 1, 1, 0, 0, 0, 1, 0)), (48, (.if_icmp .ne 18, 3, 66, 0, 0, 0, 0)), (51, (.aload_n 0, 1, 0, 0, 0, 0, 0)), (52, (.aload_n 1, 1, 1, 0, 0, 0, 0)), (53, (.bipush 48, 2, 0, 0, 0, 48, 0)), (55, (.iload_n 3, 1, 3, 0, 0, 0, 0)), (56, (.iload 4, 2, 4, 0, 0, 0, 0)), (58, (.idiv, 1, 0, 0, 0, 0, 0)), (59, (.bipush 10, 2, 0, 0, 0, 10, 0)), (61, (.irem, 1, 0, 0, 0, 0, 0)), (62, (.iadd, 1, 0, 0, 0, 0, 0)), (63, (.invokestatic 18, 3, 123, 51, 0, 128, 0))],
  [(66, (.iload 4, 2, 4, 0, 0, 0, 0)), (68, (.bipush 10, 2, 0, 0, 0, 10, 0)), (70, (.idiv, 1, 0, 0, 0, 0, 0)), (71, (.istore 4, 2, 4, 0, 0, 0, 0)), (73, (.goto (-39), 3, 34, 0, 0, 0, 0)), (76, (.return_, 1, 0, 0, 0, 0, 0))]]
def tL_ones : List (List (Nat × E_)) := [[(0, (.iconst 0, 1, 0, 0, 0, 0, 0)), (1, (.istore_n 1, 1, 1, 0, 0, 0, 0)), (2, (.iconst 0, 1, 0, 0, 0, 0, 0)), (3, (.istore_n 2, 1, 2, 0, 0, 0, 0)), (4, (.iload_n 2, 1, 2, 0, 0, 0, 0)), (5, (.bipush 12, 2, 0, 0, 0, 12, 0)), (7, (.if_icmp .ge 17, 3, 24, 0, 0, 0, 0)), (10, (.iload_n 1, 1, 1, 0, 0, 0, 0)), (11, (.iload_n 0, 1, 0, 0, 0, 0, 0)), (12, (.iload_n 2, 1, 2, 0, 0, 0, 0)), (13, (.ishr, 1, 0, 0, 0, 0, 0)), (14, (.iconst 1, 1, 0, 0, 0, 1, 0)), (15, (.iand, 1, 0, 0, 0, 0, 0)), (16, (.iadd, 1, 0, 0, 0, 0, 0)), (17, (.istore_n 1, 1, 1, 0, 0, 0, 0)), (18, (.iinc 2 1, 3, 2, 0, 0, 1, 0)), (21, (.goto (-17), 3, 4, 0, 0, 0, 0)), (24, (.iload_n 1, 1, 1, 0, 0, 0, 0)), (25, (.ireturn, 1, 0, 0, 0, 0, 0))]]
def tL_letters : List (List (Nat × E_)) := [[(0, (.aload_n 0, 1, 0, 0, 0, 0, 0)), (1, (.aload_n 1, 1, 1, 0, 0, 0, 0)), (2, (.bipush 32, 2, 0, 0, 0, 32, 0)), (4, (.invokestatic 18, 3, 123, 51, 0, 128, 0)), (7, (.iload_n 2, 1, 2, 0, 0, 0, 0)), (8, (.ifCond .ne 10, 3, 18, 0, 0, 0, 0)), (11, (.aload_n 0, 1, 0, 0, 0, 0, 0)), (12, (.aload_n 1, 1, 1, 0, 0, 0, 0)), (13, (.bipush 45, 2, 0, 0, 0, 45, 0)), (15, (.invokestatic 18, 3, 123, 51, 0, 128, 0)), (18, (.iconst 0, 1, 0, 0, 0, 0, 0)), (19, (.istore_n 3, 1, 3, 0, 0, 0, 0)), (20, (.iload_n 3, 1, 3, 0, 0, 0, 0)), (21, (.bipush 8, 2, 0, 0, 0, 8, 0)), (23, (.if_icmp .ge 27, 3, 50, 0, 0, 0, 0)), (26, (.iload_n 2, 1, 2, 0, 0, 0, 0)), (27, (.iload_n 3, 1, 3, 0, 0, 0, 0)), (28, (.ishr, 1, 0, 0, 0, 0, 0)), (29, (.iconst 1, 1, 0, 0, 0, 1, 0)), (30, (.iand, 1, 0, 0, 0, 0, 0)), (31, (.iconst 1, 1, 0, 0, 0, 1, 0))],
  [(32, (.if_icmp .ne 12, 3, 44, 0, 0, 0, 0)), (35, (.aload_n 0, 1, 0, 0, 0, 0, 0)), (36, (.aload_n 1, 1, 1, 0, 0, 0, 0)), (37, (.bipush 97, 2, 0, 0, 0, 97, 0)), (39, (.iload_n 3, 1, 3, 0, 0, 0, 0)), (40, (.iadd, 1, 0, 0, 0, 0, 0)), (41, (.invokestatic 18, 3, 123, 51, 0, 128, 0)), (44, (.iinc 3 1, 3, 3, 0, 0, 1, 0)), (47, (.goto (-27), 3, 20, 0, 0, 0, 0)), (50, (.return_, 1, 0, 0, 0, 0, 0))]]
def tL_told : List (List (Nat × E_)) := [[(5, (.aload_n 1, 1, 1, 0, 0, 0, 0)), (6, (.iload_n 2, 1, 2, 0, 0, 0, 0)), (7, (.invokestatic 28, 3, 121, 34, 1, 116, 0)), (10, (.istore 9, 2, 9, 0, 0, 0, 0)), (12, (.iconst 2, 1, 0, 0, 0, 2, 0)), (13, (.iload 9, 2, 9, 0, 0, 0, 0)), (15, (.iconst 3, 1, 0, 0, 0, 3, 0)), (16, (.invokestatic 32, 3, 122, 34, 1, 121, 0)), (19, (.iadd, 1, 0, 0, 0, 0, 0)), (20, (.istore 10, 2, 10, 0, 0, 0, 0)), (22, (.iconst 1, 1, 0, 0, 0, 1, 0)), (23, (.iload 10, 2, 10, 0, 0, 0, 0)), (25, (.ishl, 1, 0, 0, 0, 0, 0)), (26, (.iconst 1, 1, 0, 0, 0, 1, 0)), (27, (.isub, 1, 0, 0, 0, 0, 0)), (28, (.istore 11, 2, 11, 0, 0, 0, 0)), (30, (.aload 7, 2, 7, 0, 0, 0, 0))],
  [(32, (.iconst 0, 1, 0, 0, 0, 0, 0)), (33, (.iconst 2, 1, 0, 0, 0, 2, 0)), (34, (.iload 9, 2, 9, 0, 0, 0, 0)), (36, (.iconst 2, 1, 0, 0, 0, 2, 0)), (37, (.ishr, 1, 0, 0, 0, 0, 0)), (38, (.iconst 4, 1, 0, 0, 0, 4, 0)), (39, (.invokestatic 32, 3, 122, 34, 1, 121, 0)), (42, (.iadd, 1, 0, 0, 0, 0, 0)), (43, (.iastore, 1, 0, 0, 0, 0, 0)), (44, (.aload 7, 2, 7, 0, 0, 0, 0)), (46, (.iconst 1, 1, 0, 0, 0, 1, 0)), (47, (.iconst 2, 1, 0, 0, 0, 2, 0)), (48, (.iload 9, 2, 9, 0, 0, 0, 0)), (50, (.iconst 4, 1, 0, 0, 0, 4, 0)), (51, (.ishr, 1, 0, 0, 0, 0, 0)), (52, (.iconst 5, 1, 0, 0, 0, 5, 0)), (53, (.invokestatic 32, 3, 122, 34, 1, 121, 0)), (56, (.iadd, 1, 0, 0, 0, 0, 0)), (57, (.iastore, 1, 0, 0, 0, 0, 0)), (58, (.aload 7, 2, 7, 0, 0, 0, 0)), (60, (.iconst 2, 1, 0, 0, 0, 2, 0)), (61, (.iconst 1, 1, 0, 0, 0, 1, 0)), (62, (.iload 9, 2, 9, 0, 0, 0, 0))],
  [(64, (.bipush 7, 2, 0, 0, 0, 7, 0)), (66, (.ishr, 1, 0, 0, 0, 0, 0)), (67, (.iconst 3, 1, 0, 0, 0, 3, 0)), (68, (.invokestatic 32, 3, 122, 34, 1, 121, 0)), (71, (.iadd, 1, 0, 0, 0, 0, 0)), (72, (.iastore, 1, 0, 0, 0, 0, 0)), (73, (.aload 7, 2, 7, 0, 0, 0, 0)), (75, (.iconst 3, 1, 0, 0, 0, 3, 0)), (76, (.iconst 1, 1, 0, 0, 0, 1, 0)), (77, (.iload 9, 2, 9, 0, 0, 0, 0)), (79, (.bipush 9, 2, 0, 0, 0, 9, 0)), (81, (.ishr, 1, 0, 0, 0, 0, 0)), (82, (.iconst 4, 1, 0, 0, 0, 4, 0)), (83, (.invokestatic 32, 3, 122, 34, 1, 121, 0)), (86, (.iadd, 1, 0, 0, 0, 0, 0)), (87, (.iastore, 1, 0, 0, 0, 0, 0)), (88, (.iconst 0, 1, 0, 0, 0, 0, 0)), (89, (.istore 12, 2, 12, 0, 0, 0, 0)), (91, (.iload 12, 2, 12, 0, 0, 0, 0)), (93, (.aload 7, 2, 7, 0, 0, 0, 0)), (95, (.iconst 0, 1, 0, 0, 0, 0, 0))],
  [(96, (.iaload, 1, 0, 0, 0, 0, 0)), (97, (.if_icmp .ge 59, 3, 156, 0, 0, 0, 0)), (100, (.aload_n 3, 1, 3, 0, 0, 0, 0)), (101, (.iload 12, 2, 12, 0, 0, 0, 0)), (103, (.aload_n 1, 1, 1, 0, 0, 0, 0)), (104, (.iload_n 2, 1, 2, 0, 0, 0, 0)), (105, (.iconst 1, 1, 0, 0, 0, 1, 0)), (106, (.iadd, 1, 0, 0, 0, 0, 0)), (107, (.invokestatic 28, 3, 121, 34, 1, 116, 0)), (110, (.iconst 5, 1, 0, 0, 0, 5, 0)), (111, (.iload 12, 2, 12, 0, 0, 0, 0)), (113, (.imul, 1, 0, 0, 0, 0, 0)), (114, (.ishr, 1, 0, 0, 0, 0, 0)), (115, (.iload 11, 2, 11, 0, 0, 0, 0)), (117, (.iconst 1, 1, 0, 0, 0, 1, 0)), (118, (.iadd, 1, 0, 0, 0, 0, 0)), (119, (.invokestatic 32, 3, 122, 34, 1, 121, 0)), (122, (.iastore, 1, 0, 0, 0, 0, 0)), (123, (.aload_n 0, 1, 0, 0, 0, 0, 0)), (124, (.aload 8, 2, 8, 0, 0, 0, 0)), (126, (.ldc2_w 36, 3, 0, 104, 0, 0, (499967946343)))],
  [(129, (.invokestatic 38, 3, 124, 99, 0, 125, 0)), (132, (.aload_n 0, 1, 0, 0, 0, 0, 0)), (133, (.aload 8, 2, 8, 0, 0, 0, 0)), (135, (.aload_n 3, 1, 3, 0, 0, 0, 0)), (136, (.iload 12, 2, 12, 0, 0, 0, 0)), (138, (.iaload, 1, 0, 0, 0, 0, 0)), (139, (.invokestatic 42, 3, 128, 67, 0, 142, 0)), (142, (.aload_n 0, 1, 0, 0, 0, 0, 0)), (143, (.aload 8, 2, 8, 0, 0, 0, 0)), (145, (.bipush 59, 2, 0, 0, 0, 59, 0)), (147, (.invokestatic 18, 3, 123, 51, 0, 128, 0)), (150, (.iinc 12 1, 3, 12, 0, 0, 1, 0)), (153, (.goto (-62), 3, 91, 0, 0, 0, 0)), (156, (.iconst 0, 1, 0, 0, 0, 0, 0)), (157, (.istore 12, 2, 12, 0, 0, 0, 0)), (159, (.iload 12, 2, 12, 0, 0, 0, 0))],
  [(161, (.aload 7, 2, 7, 0, 0, 0, 0)), (163, (.iconst 1, 1, 0, 0, 0, 1, 0)), (164, (.iaload, 1, 0, 0, 0, 0, 0)), (165, (.if_icmp .ge 267, 3, 432, 0, 0, 0, 0)), (168, (.aload_n 1, 1, 1, 0, 0, 0, 0)), (169, (.iload_n 2, 1, 2, 0, 0, 0, 0)), (170, (.iconst 2, 1, 0, 0, 0, 2, 0)), (171, (.iadd, 1, 0, 0, 0, 0, 0)), (172, (.iload 12, 2, 12, 0, 0, 0, 0)), (174, (.iadd, 1, 0, 0, 0, 0, 0)), (175, (.invokestatic 28, 3, 121, 34, 1, 116, 0)), (178, (.istore 13, 2, 13, 0, 0, 0, 0)), (180, (.aload 4, 2, 4, 0, 0, 0, 0)), (182, (.iconst 3, 1, 0, 0, 0, 3, 0)), (183, (.iload 12, 2, 12, 0, 0, 0, 0)), (185, (.imul, 1, 0, 0, 0, 0, 0)), (186, (.iload 13, 2, 13, 0, 0, 0, 0)), (188, (.iload 11, 2, 11, 0, 0, 0, 0)), (190, (.iconst 1, 1, 0, 0, 0, 1, 0)), (191, (.iadd, 1, 0, 0, 0, 0, 0))],
  [(192, (.invokestatic 32, 3, 122, 34, 1, 121, 0)), (195, (.iload 13, 2, 13, 0, 0, 0, 0)), (197, (.iconst 5, 1, 0, 0, 0, 5, 0)), (198, (.ishr, 1, 0, 0, 0, 0, 0)), (199, (.iload 11, 2, 11, 0, 0, 0, 0)), (201, (.iconst 1, 1, 0, 0, 0, 1, 0)), (202, (.iadd, 1, 0, 0, 0, 0, 0)), (203, (.invokestatic 32, 3, 122, 34, 1, 121, 0)), (206, (.iand, 1, 0, 0, 0, 0, 0)), (207, (.iastore, 1, 0, 0, 0, 0, 0)), (208, (.aload 4, 2, 4, 0, 0, 0, 0)), (210, (.iconst 3, 1, 0, 0, 0, 3, 0)), (211, (.iload 12, 2, 12, 0, 0, 0, 0)), (213, (.imul, 1, 0, 0, 0, 0, 0)), (214, (.iconst 1, 1, 0, 0, 0, 1, 0)), (215, (.iadd, 1, 0, 0, 0, 0, 0)), (216, (.iload 13, 2, 13, 0, 0, 0, 0)), (218, (.bipush 10, 2, 0, 0, 0, 10, 0)), (220, (.ishr, 1, 0, 0, 0, 0, 0)), (221, (.iconst 1, 1, 0, 0, 0, 1, 0)), (222, (.iand, 1, 0, 0, 0, 0, 0)), (223, (.ifCond .ne 7, 3, 230, 0, 0, 0, 0))],
  [(226, (.iconst 0, 1, 0, 0, 0, 0, 0)), (227, (.goto 38, 3, 265, 0, 0, 0, 0)), (230, (.iload 13, 2, 13, 0, 0, 0, 0)), (232, (.bipush 11, 2, 0, 0, 0, 11, 0)), (234, (.ishr, 1, 0, 0, 0, 0, 0)), (235, (.iload 11, 2, 11, 0, 0, 0, 0)), (237, (.iconst 1, 1, 0, 0, 0, 1, 0)), (238, (.iadd, 1, 0, 0, 0, 0, 0)), (239, (.invokestatic 32, 3, 122, 34, 1, 121, 0)), (242, (.iload 13, 2, 13, 0, 0, 0, 0)), (244, (.bipush 16, 2, 0, 0, 0, 16, 0)), (246, (.ishr, 1, 0, 0, 0, 0, 0)), (247, (.iload 11, 2, 11, 0, 0, 0, 0)), (249, (.iconst 1, 1, 0, 0, 0, 1, 0)), (250, (.iadd, 1, 0, 0, 0, 0, 0)), (251, (.invokestatic 32, 3, 122, 34, 1, 121, 0)), (254, (.iand, 1, 0, 0, 0, 0, 0)), (255, (.aload 4, 2, 4, 0, 0, 0, 0))],
  [(257, (.iconst 3, 1, 0, 0, 0, 3, 0)), (258, (.iload 12, 2, 12, 0, 0, 0, 0)), (260, (.imul, 1, 0, 0, 0, 0, 0)), (261, (.iaload, 1, 0, 0, 0, 0, 0)), (262, (.iconst (-1), 1, 0, 0, 0, (-1), 0)), (263, (.ixor, 1, 0, 0, 0, 0, 0)), (264, (.iand, 1, 0, 0, 0, 0, 0)), (265, (.iastore, 1, 0, 0, 0, 0, 0)), (266, (.aload 4, 2, 4, 0, 0, 0, 0)), (268, (.iconst 3, 1, 0, 0, 0, 3, 0)), (269, (.iload 12, 2, 12, 0, 0, 0, 0)), (271, (.imul, 1, 0, 0, 0, 0, 0)), (272, (.iconst 2, 1, 0, 0, 0, 2, 0)), (273, (.iadd, 1, 0, 0, 0, 0, 0)), (274, (.iconst 0, 1, 0, 0, 0, 0, 0)), (275, (.iastore, 1, 0, 0, 0, 0, 0)), (276, (.iconst 0, 1, 0, 0, 0, 0, 0)), (277, (.istore 14, 2, 14, 0, 0, 0, 0)), (279, (.iload 14, 2, 14, 0, 0, 0, 0)), (281, (.aload 7, 2, 7, 0, 0, 0, 0)), (283, (.iconst 0, 1, 0, 0, 0, 0, 0)), (284, (.iaload, 1, 0, 0, 0, 0, 0)), (285, (.if_icmp .ge 75, 3, 360, 0, 0, 0, 0))],
  [(288, (.aload 4, 2, 4, 0, 0, 0, 0)), (290, (.iconst 3, 1, 0, 0, 0, 3, 0)), (291, (.iload 12, 2, 12, 0, 0, 0, 0)), (293, (.imul, 1, 0, 0, 0, 0, 0)), (294, (.iaload, 1, 0, 0, 0, 0, 0)), (295, (.aload_n 3, 1, 3, 0, 0, 0, 0)), (296, (.iload 14, 2, 14, 0, 0, 0, 0)), (298, (.iaload, 1, 0, 0, 0, 0, 0)), (299, (.iconst (-1), 1, 0, 0, 0, (-1), 0)), (300, (.ixor, 1, 0, 0, 0, 0, 0)), (301, (.iand, 1, 0, 0, 0, 0, 0)), (302, (.ifCond .ne 24, 3, 326, 0, 0, 0, 0)), (305, (.aload 4, 2, 4, 0, 0, 0, 0)), (307, (.iconst 3, 1, 0, 0, 0, 3, 0)), (308, (.iload 12, 2, 12, 0, 0, 0, 0)), (310, (.imul, 1, 0, 0, 0, 0, 0)), (311, (.iconst 1, 1, 0, 0, 0, 1, 0)), (312, (.iadd, 1, 0, 0, 0, 0, 0)), (313, (.iaload, 1, 0, 0, 0, 0, 0)), (314, (.aload_n 3, 1, 3, 0, 0, 0, 0)), (315, (.iload 14, 2, 14, 0, 0, 0, 0)), (317, (.iaload, 1, 0, 0, 0, 0, 0)), (318, (.iand, 1, 0, 0, 0, 0, 0)), (319, (.ifCond .ne 7, 3, 326, 0, 0, 0, 0))],
  [(322, (.iconst 1, 1, 0, 0, 0, 1, 0)), (323, (.goto 4, 3, 327, 0, 0, 0, 0)), (326, (.iconst 0, 1, 0, 0, 0, 0, 0)), (327, (.istore 15, 2, 15, 0, 0, 0, 0)), (329, (.aload 4, 2, 4, 0, 0, 0, 0)), (331, (.iconst 3, 1, 0, 0, 0, 3, 0)), (332, (.iload 12, 2, 12, 0, 0, 0, 0)), (334, (.imul, 1, 0, 0, 0, 0, 0)), (335, (.iconst 2, 1, 0, 0, 0, 2, 0)), (336, (.iadd, 1, 0, 0, 0, 0, 0)), (337, (.dup2, 1, 0, 0, 0, 0, 0)), (338, (.iaload, 1, 0, 0, 0, 0, 0)), (339, (.iload 15, 2, 15, 0, 0, 0, 0)), (341, (.ifCond .eq 10, 3, 351, 0, 0, 0, 0)), (344, (.iconst 1, 1, 0, 0, 0, 1, 0)), (345, (.iload 14, 2, 14, 0, 0, 0, 0)), (347, (.ishl, 1, 0, 0, 0, 0, 0)), (348, (.goto 4, 3, 352, 0, 0, 0, 0)), (351, (.iconst 0, 1, 0, 0, 0, 0, 0))],
  [(352, (.ior, 1, 0, 0, 0, 0, 0)), (353, (.iastore, 1, 0, 0, 0, 0, 0)), (354, (.iinc 14 1, 3, 14, 0, 0, 1, 0)), (357, (.goto (-78), 3, 279, 0, 0, 0, 0)), (360, (.aload_n 0, 1, 0, 0, 0, 0, 0)), (361, (.aload 8, 2, 8, 0, 0, 0, 0)), (363, (.ldc2_w 45, 3, 0, 105, 0, 0, (469852319347))), (366, (.invokestatic 38, 3, 124, 99, 0, 125, 0)), (369, (.aload_n 0, 1, 0, 0, 0, 0, 0)), (370, (.aload 8, 2, 8, 0, 0, 0, 0)), (372, (.aload 4, 2, 4, 0, 0, 0, 0)), (374, (.iconst 3, 1, 0, 0, 0, 3, 0)), (375, (.iload 12, 2, 12, 0, 0, 0, 0)), (377, (.imul, 1, 0, 0, 0, 0, 0)), (378, (.iaload, 1, 0, 0, 0, 0, 0)), (379, (.invokestatic 42, 3, 128, 67, 0, 142, 0)), (382, (.aload 4, 2, 4, 0, 0, 0, 0))],
  [(384, (.iconst 3, 1, 0, 0, 0, 3, 0)), (385, (.iload 12, 2, 12, 0, 0, 0, 0)), (387, (.imul, 1, 0, 0, 0, 0, 0)), (388, (.iconst 1, 1, 0, 0, 0, 1, 0)), (389, (.iadd, 1, 0, 0, 0, 0, 0)), (390, (.iaload, 1, 0, 0, 0, 0, 0)), (391, (.ifCond .le 27, 3, 418, 0, 0, 0, 0)), (394, (.aload_n 0, 1, 0, 0, 0, 0, 0)), (395, (.aload 8, 2, 8, 0, 0, 0, 0)), (397, (.ldc2_w 47, 3, 0, 106, 0, 0, (544108404))), (400, (.invokestatic 38, 3, 124, 99, 0, 125, 0)), (403, (.aload_n 0, 1, 0, 0, 0, 0, 0)), (404, (.aload 8, 2, 8, 0, 0, 0, 0)), (406, (.aload 4, 2, 4, 0, 0, 0, 0)), (408, (.iconst 3, 1, 0, 0, 0, 3, 0)), (409, (.iload 12, 2, 12, 0, 0, 0, 0)), (411, (.imul, 1, 0, 0, 0, 0, 0)), (412, (.iconst 1, 1, 0, 0, 0, 1, 0)), (413, (.iadd, 1, 0, 0, 0, 0, 0)), (414, (.iaload, 1, 0, 0, 0, 0, 0)), (415, (.invokestatic 42, 3, 128, 67, 0, 142, 0))],
  [(418, (.aload_n 0, 1, 0, 0, 0, 0, 0)), (419, (.aload 8, 2, 8, 0, 0, 0, 0)), (421, (.bipush 59, 2, 0, 0, 0, 59, 0)), (423, (.invokestatic 18, 3, 123, 51, 0, 128, 0)), (426, (.iinc 12 1, 3, 12, 0, 0, 1, 0)), (429, (.goto (-270), 3, 159, 0, 0, 0, 0)), (432, (.iconst 0, 1, 0, 0, 0, 0, 0)), (433, (.istore 12, 2, 12, 0, 0, 0, 0)), (435, (.iload 12, 2, 12, 0, 0, 0, 0)), (437, (.aload 7, 2, 7, 0, 0, 0, 0)), (439, (.iconst 2, 1, 0, 0, 0, 2, 0)), (440, (.iaload, 1, 0, 0, 0, 0, 0)), (441, (.if_icmp .ge 63, 3, 504, 0, 0, 0, 0)), (444, (.aload 5, 2, 5, 0, 0, 0, 0)), (446, (.iload 12, 2, 12, 0, 0, 0, 0))],
  [(448, (.aload_n 1, 1, 1, 0, 0, 0, 0)), (449, (.iload_n 2, 1, 2, 0, 0, 0, 0)), (450, (.bipush 8, 2, 0, 0, 0, 8, 0)), (452, (.iadd, 1, 0, 0, 0, 0, 0)), (453, (.invokestatic 28, 3, 121, 34, 1, 116, 0)), (456, (.bipush 6, 2, 0, 0, 0, 6, 0)), (458, (.iload 12, 2, 12, 0, 0, 0, 0)), (460, (.imul, 1, 0, 0, 0, 0, 0)), (461, (.ishr, 1, 0, 0, 0, 0, 0)), (462, (.aload 7, 2, 7, 0, 0, 0, 0)), (464, (.iconst 1, 1, 0, 0, 0, 1, 0)), (465, (.iaload, 1, 0, 0, 0, 0, 0)), (466, (.invokestatic 32, 3, 122, 34, 1, 121, 0)), (469, (.iastore, 1, 0, 0, 0, 0, 0)), (470, (.aload_n 0, 1, 0, 0, 0, 0, 0)), (471, (.aload 8, 2, 8, 0, 0, 0, 0)), (473, (.ldc2_w 49, 3, 0, 107, 0, 0, (2003792484))), (476, (.invokestatic 38, 3, 124, 99, 0, 125, 0)), (479, (.aload_n 0, 1, 0, 0, 0, 0, 0))],
  [(480, (.aload 8, 2, 8, 0, 0, 0, 0)), (482, (.aload 5, 2, 5, 0, 0, 0, 0)), (484, (.iload 12, 2, 12, 0, 0, 0, 0)), (486, (.iaload, 1, 0, 0, 0, 0, 0)), (487, (.invokestatic 51, 3, 126, 83, 0, 145, 0)), (490, (.aload_n 0, 1, 0, 0, 0, 0, 0)), (491, (.aload 8, 2, 8, 0, 0, 0, 0)), (493, (.bipush 59, 2, 0, 0, 0, 59, 0)), (495, (.invokestatic 18, 3, 123, 51, 0, 128, 0)), (498, (.iinc 12 1, 3, 12, 0, 0, 1, 0)), (501, (.goto (-66), 3, 435, 0, 0, 0, 0)), (504, (.iconst 0, 1, 0, 0, 0, 0, 0)), (505, (.istore 12, 2, 12, 0, 0, 0, 0)), (507, (.iload 12, 2, 12, 0, 0, 0, 0)), (509, (.aload 7, 2, 7, 0, 0, 0, 0)), (511, (.iconst 3, 1, 0, 0, 0, 3, 0))],
  [(512, (.iaload, 1, 0, 0, 0, 0, 0)), (513, (.if_icmp .ge 391, 3, 904, 0, 0, 0, 0)), (516, (.aload_n 1, 1, 1, 0, 0, 0, 0)), (517, (.iload_n 2, 1, 2, 0, 0, 0, 0)), (518, (.bipush 9, 2, 0, 0, 0, 9, 0)), (520, (.iadd, 1, 0, 0, 0, 0, 0)), (521, (.iload 12, 2, 12, 0, 0, 0, 0)), (523, (.iadd, 1, 0, 0, 0, 0, 0)), (524, (.invokestatic 28, 3, 121, 34, 1, 116, 0)), (527, (.istore 13, 2, 13, 0, 0, 0, 0)), (529, (.bipush 6, 2, 0, 0, 0, 6, 0)), (531, (.iload 12, 2, 12, 0, 0, 0, 0)), (533, (.imul, 1, 0, 0, 0, 0, 0)), (534, (.istore 14, 2, 14, 0, 0, 0, 0)), (536, (.aload 6, 2, 6, 0, 0, 0, 0)), (538, (.iload 14, 2, 14, 0, 0, 0, 0)), (540, (.iload 13, 2, 13, 0, 0, 0, 0)), (542, (.iconst 4, 1, 0, 0, 0, 4, 0)), (543, (.invokestatic 32, 3, 122, 34, 1, 121, 0))],
  [(546, (.iastore, 1, 0, 0, 0, 0, 0)), (547, (.aload 6, 2, 6, 0, 0, 0, 0)), (549, (.iload 14, 2, 14, 0, 0, 0, 0)), (551, (.iconst 1, 1, 0, 0, 0, 1, 0)), (552, (.iadd, 1, 0, 0, 0, 0, 0)), (553, (.iload 13, 2, 13, 0, 0, 0, 0)), (555, (.iconst 2, 1, 0, 0, 0, 2, 0)), (556, (.ishr, 1, 0, 0, 0, 0, 0)), (557, (.iconst 3, 1, 0, 0, 0, 3, 0)), (558, (.iand, 1, 0, 0, 0, 0, 0)), (559, (.ifCond .ne 17, 3, 576, 0, 0, 0, 0)), (562, (.iload 13, 2, 13, 0, 0, 0, 0)), (564, (.iconst 4, 1, 0, 0, 0, 4, 0)), (565, (.ishr, 1, 0, 0, 0, 0, 0)), (566, (.iload 11, 2, 11, 0, 0, 0, 0)), (568, (.iconst 1, 1, 0, 0, 0, 1, 0)), (569, (.iadd, 1, 0, 0, 0, 0, 0)), (570, (.invokestatic 32, 3, 122, 34, 1, 121, 0)), (573, (.goto 6, 3, 579, 0, 0, 0, 0))],
  [(576, (.sipush 255, 3, 0, 0, 0, 255, 0)), (579, (.iastore, 1, 0, 0, 0, 0, 0)), (580, (.aload 6, 2, 6, 0, 0, 0, 0)), (582, (.iload 14, 2, 14, 0, 0, 0, 0)), (584, (.iconst 2, 1, 0, 0, 0, 2, 0)), (585, (.iadd, 1, 0, 0, 0, 0, 0)), (586, (.iload 13, 2, 13, 0, 0, 0, 0)), (588, (.bipush 9, 2, 0, 0, 0, 9, 0)), (590, (.ishr, 1, 0, 0, 0, 0, 0)), (591, (.bipush 7, 2, 0, 0, 0, 7, 0)), (593, (.iand, 1, 0, 0, 0, 0, 0)), (594, (.ifCond .ne 18, 3, 612, 0, 0, 0, 0)), (597, (.iload 13, 2, 13, 0, 0, 0, 0)), (599, (.bipush 12, 2, 0, 0, 0, 12, 0)), (601, (.ishr, 1, 0, 0, 0, 0, 0)), (602, (.aload 7, 2, 7, 0, 0, 0, 0)), (604, (.iconst 0, 1, 0, 0, 0, 0, 0)), (605, (.iaload, 1, 0, 0, 0, 0, 0)), (606, (.invokestatic 32, 3, 122, 34, 1, 121, 0))],
  [(609, (.goto 5, 3, 614, 0, 0, 0, 0)), (612, (.bipush (-4), 2, 0, 0, 0, (-4), 0)), (614, (.iastore, 1, 0, 0, 0, 0, 0)), (615, (.aload 6, 2, 6, 0, 0, 0, 0)), (617, (.iload 14, 2, 14, 0, 0, 0, 0)), (619, (.iconst 3, 1, 0, 0, 0, 3, 0)), (620, (.iadd, 1, 0, 0, 0, 0, 0)), (621, (.iload 13, 2, 13, 0, 0, 0, 0)), (623, (.bipush 15, 2, 0, 0, 0, 15, 0)), (625, (.ishr, 1, 0, 0, 0, 0, 0)), (626, (.iconst 3, 1, 0, 0, 0, 3, 0)), (627, (.iand, 1, 0, 0, 0, 0, 0)), (628, (.ifCond .ne 7, 3, 635, 0, 0, 0, 0)), (631, (.iconst 1, 1, 0, 0, 0, 1, 0)), (632, (.goto 4, 3, 636, 0, 0, 0, 0)), (635, (.iconst 0, 1, 0, 0, 0, 0, 0)), (636, (.iastore, 1, 0, 0, 0, 0, 0)), (637, (.aload 6, 2, 6, 0, 0, 0, 0)), (639, (.iload 14, 2, 14, 0, 0, 0, 0))],
  [(641, (.iconst 4, 1, 0, 0, 0, 4, 0)), (642, (.iadd, 1, 0, 0, 0, 0, 0)), (643, (.iload 13, 2, 13, 0, 0, 0, 0)), (645, (.bipush 17, 2, 0, 0, 0, 17, 0)), (647, (.ishr, 1, 0, 0, 0, 0, 0)), (648, (.bipush 10, 2, 0, 0, 0, 10, 0)), (650, (.invokestatic 32, 3, 122, 34, 1, 121, 0)), (653, (.iastore, 1, 0, 0, 0, 0, 0)), (654, (.aload 6, 2, 6, 0, 0, 0, 0)), (656, (.iload 14, 2, 14, 0, 0, 0, 0)), (658, (.iconst 5, 1, 0, 0, 0, 5, 0)), (659, (.iadd, 1, 0, 0, 0, 0, 0)), (660, (.iconst 0, 1, 0, 0, 0, 0, 0)), (661, (.iastore, 1, 0, 0, 0, 0, 0)), (662, (.iconst 0, 1, 0, 0, 0, 0, 0)), (663, (.istore 15, 2, 15, 0, 0, 0, 0)), (665, (.iload 15, 2, 15, 0, 0, 0, 0)), (667, (.aload 7, 2, 7, 0, 0, 0, 0)), (669, (.iconst 1, 1, 0, 0, 0, 1, 0)), (670, (.iaload, 1, 0, 0, 0, 0, 0)), (671, (.if_icmp .ge 57, 3, 728, 0, 0, 0, 0))],
  [(674, (.aload 6, 2, 6, 0, 0, 0, 0)), (676, (.iload 14, 2, 14, 0, 0, 0, 0)), (678, (.iconst 5, 1, 0, 0, 0, 5, 0)), (679, (.iadd, 1, 0, 0, 0, 0, 0)), (680, (.dup2, 1, 0, 0, 0, 0, 0)), (681, (.iaload, 1, 0, 0, 0, 0, 0)), (682, (.aload 4, 2, 4, 0, 0, 0, 0)), (684, (.iconst 3, 1, 0, 0, 0, 3, 0)), (685, (.iload 15, 2, 15, 0, 0, 0, 0)), (687, (.imul, 1, 0, 0, 0, 0, 0)), (688, (.iaload, 1, 0, 0, 0, 0, 0)), (689, (.aload 4, 2, 4, 0, 0, 0, 0)), (691, (.iconst 3, 1, 0, 0, 0, 3, 0)), (692, (.iload 15, 2, 15, 0, 0, 0, 0)), (694, (.imul, 1, 0, 0, 0, 0, 0)), (695, (.iconst 1, 1, 0, 0, 0, 1, 0)), (696, (.iadd, 1, 0, 0, 0, 0, 0)), (697, (.iaload, 1, 0, 0, 0, 0, 0)), (698, (.ior, 1, 0, 0, 0, 0, 0)), (699, (.aload 6, 2, 6, 0, 0, 0, 0)), (701, (.iload 14, 2, 14, 0, 0, 0, 0)), (703, (.iconst 1, 1, 0, 0, 0, 1, 0))],
  [(704, (.iadd, 1, 0, 0, 0, 0, 0)), (705, (.iaload, 1, 0, 0, 0, 0, 0)), (706, (.iconst (-1), 1, 0, 0, 0, (-1), 0)), (707, (.ixor, 1, 0, 0, 0, 0, 0)), (708, (.iand, 1, 0, 0, 0, 0, 0)), (709, (.ifCond .ne 10, 3, 719, 0, 0, 0, 0)), (712, (.iconst 1, 1, 0, 0, 0, 1, 0)), (713, (.iload 15, 2, 15, 0, 0, 0, 0)), (715, (.ishl, 1, 0, 0, 0, 0, 0)), (716, (.goto 4, 3, 720, 0, 0, 0, 0)), (719, (.iconst 0, 1, 0, 0, 0, 0, 0)), (720, (.ior, 1, 0, 0, 0, 0, 0)), (721, (.iastore, 1, 0, 0, 0, 0, 0)), (722, (.iinc 15 1, 3, 15, 0, 0, 1, 0)), (725, (.goto (-60), 3, 665, 0, 0, 0, 0)), (728, (.aload_n 0, 1, 0, 0, 0, 0, 0)), (729, (.aload 8, 2, 8, 0, 0, 0, 0)), (731, (.aload 6, 2, 6, 0, 0, 0, 0)), (733, (.iload 14, 2, 14, 0, 0, 0, 0)), (735, (.iaload, 1, 0, 0, 0, 0, 0))],
  [(736, (.ifCond .ne 9, 3, 745, 0, 0, 0, 0)), (739, (.ldc2_w 54, 3, 0, 108, 0, 0, (482854660462))), (742, (.goto 36, 3, 778, 0, 0, 0, 0)), (745, (.aload 6, 2, 6, 0, 0, 0, 0)), (747, (.iload 14, 2, 14, 0, 0, 0, 0)), (749, (.iaload, 1, 0, 0, 0, 0, 0)), (750, (.iconst 1, 1, 0, 0, 0, 1, 0)), (751, (.if_icmp .ne 9, 3, 760, 0, 0, 0, 0)), (754, (.ldc2_w 56, 3, 0, 109, 0, 0, (1818325876))), (757, (.goto 21, 3, 778, 0, 0, 0, 0)), (760, (.aload 6, 2, 6, 0, 0, 0, 0)), (762, (.iload 14, 2, 14, 0, 0, 0, 0)), (764, (.iaload, 1, 0, 0, 0, 0, 0)), (765, (.iconst 2, 1, 0, 0, 0, 2, 0)), (766, (.if_icmp .ne 9, 3, 775, 0, 0, 0, 0))],
  [(769, (.ldc2_w 58, 3, 0, 110, 0, 0, (27973166649734508))), (772, (.goto 6, 3, 778, 0, 0, 0, 0)), (775, (.ldc2_w 60, 3, 0, 111, 0, 0, (482956244324))), (778, (.invokestatic 38, 3, 124, 99, 0, 125, 0)), (781, (.aload_n 0, 1, 0, 0, 0, 0, 0)), (782, (.aload 8, 2, 8, 0, 0, 0, 0)), (784, (.ldc2_w 62, 3, 0, 112, 0, 0, (9116499217113957))), (787, (.invokestatic 38, 3, 124, 99, 0, 125, 0)), (790, (.aload_n 0, 1, 0, 0, 0, 0, 0)), (791, (.aload 8, 2, 8, 0, 0, 0, 0)), (793, (.aload 6, 2, 6, 0, 0, 0, 0)), (795, (.iload 14, 2, 14, 0, 0, 0, 0)), (797, (.iconst 4, 1, 0, 0, 0, 4, 0)), (798, (.iadd, 1, 0, 0, 0, 0, 0)), (799, (.iaload, 1, 0, 0, 0, 0, 0))],
  [(800, (.invokestatic 51, 3, 126, 83, 0, 145, 0)), (803, (.aload 6, 2, 6, 0, 0, 0, 0)), (805, (.iload 14, 2, 14, 0, 0, 0, 0)), (807, (.iconst 3, 1, 0, 0, 0, 3, 0)), (808, (.iadd, 1, 0, 0, 0, 0, 0)), (809, (.iaload, 1, 0, 0, 0, 0, 0)), (810, (.iconst 1, 1, 0, 0, 0, 1, 0)), (811, (.if_icmp .ne 12, 3, 823, 0, 0, 0, 0)), (814, (.aload_n 0, 1, 0, 0, 0, 0, 0)), (815, (.aload 8, 2, 8, 0, 0, 0, 0)), (817, (.ldc2_w 64, 3, 0, 113, 0, 0, (9136316380441445))), (820, (.invokestatic 38, 3, 124, 99, 0, 125, 0)), (823, (.aload 6, 2, 6, 0, 0, 0, 0)), (825, (.iload 14, 2, 14, 0, 0, 0, 0)), (827, (.iconst 2, 1, 0, 0, 0, 2, 0)), (828, (.iadd, 1, 0, 0, 0, 0, 0)), (829, (.iaload, 1, 0, 0, 0, 0, 0)), (830, (.ifCond .lt 25, 3, 855, 0, 0, 0, 0))],
  [(833, (.aload_n 0, 1, 0, 0, 0, 0, 0)), (834, (.aload 8, 2, 8, 0, 0, 0, 0)), (836, (.ldc2_w 66, 3, 0, 114, 0, 0, (35624159638131))), (839, (.invokestatic 38, 3, 124, 99, 0, 125, 0)), (842, (.aload_n 0, 1, 0, 0, 0, 0, 0)), (843, (.aload 8, 2, 8, 0, 0, 0, 0)), (845, (.aload 6, 2, 6, 0, 0, 0, 0)), (847, (.iload 14, 2, 14, 0, 0, 0, 0)), (849, (.iconst 2, 1, 0, 0, 0, 2, 0)), (850, (.iadd, 1, 0, 0, 0, 0, 0)), (851, (.iaload, 1, 0, 0, 0, 0, 0)), (852, (.invokestatic 51, 3, 126, 83, 0, 145, 0)), (855, (.aload 6, 2, 6, 0, 0, 0, 0)), (857, (.iload 14, 2, 14, 0, 0, 0, 0)), (859, (.iconst 1, 1, 0, 0, 0, 1, 0)), (860, (.iadd, 1, 0, 0, 0, 0, 0)), (861, (.iaload, 1, 0, 0, 0, 0, 0)), (862, (.sipush 255, 3, 0, 0, 0, 255, 0))],
  [(865, (.if_icmp .eq 25, 3, 890, 0, 0, 0, 0)), (868, (.aload_n 0, 1, 0, 0, 0, 0, 0)), (869, (.aload 8, 2, 8, 0, 0, 0, 0)), (871, (.ldc2_w 68, 3, 0, 115, 0, 0, (139374978419))), (874, (.invokestatic 38, 3, 124, 99, 0, 125, 0)), (877, (.aload_n 0, 1, 0, 0, 0, 0, 0)), (878, (.aload 8, 2, 8, 0, 0, 0, 0)), (880, (.aload 6, 2, 6, 0, 0, 0, 0)), (882, (.iload 14, 2, 14, 0, 0, 0, 0)), (884, (.iconst 1, 1, 0, 0, 0, 1, 0)), (885, (.iadd, 1, 0, 0, 0, 0, 0)), (886, (.iaload, 1, 0, 0, 0, 0, 0)), (887, (.invokestatic 42, 3, 128, 67, 0, 142, 0)), (890, (.aload_n 0, 1, 0, 0, 0, 0, 0)), (891, (.aload 8, 2, 8, 0, 0, 0, 0)), (893, (.bipush 59, 2, 0, 0, 0, 59, 0)), (895, (.invokestatic 18, 3, 123, 51, 0, 128, 0))],
  [(898, (.iinc 12 1, 3, 12, 0, 0, 1, 0)), (901, (.goto (-394), 3, 507, 0, 0, 0, 0)), (904, (.aload_n 0, 1, 0, 0, 0, 0, 0)), (905, (.aload 8, 2, 8, 0, 0, 0, 0)), (907, (.invokestatic 70, 3, 125, 50, 1, 148, 0)), (910, (.ifCond .eq 33, 3, 943, 0, 0, 0, 0)), (913, (.aload_n 0, 1, 0, 0, 0, 0, 0)), (914, (.invokevirtual 74, 3, 69, 6209, 1, 155, 0)), (917, (.aload 7, 2, 7, 0, 0, 0, 0)), (919, (.iconst 0, 1, 0, 0, 0, 0, 0)), (920, (.iaload, 1, 0, 0, 0, 0, 0)), (921, (.aload 7, 2, 7, 0, 0, 0, 0)), (923, (.iconst 1, 1, 0, 0, 0, 1, 0)), (924, (.iaload, 1, 0, 0, 0, 0, 0)), (925, (.iadd, 1, 0, 0, 0, 0, 0)), (926, (.aload 7, 2, 7, 0, 0, 0, 0))],
  [(928, (.iconst 2, 1, 0, 0, 0, 2, 0)), (929, (.iaload, 1, 0, 0, 0, 0, 0)), (930, (.iadd, 1, 0, 0, 0, 0, 0)), (931, (.aload 7, 2, 7, 0, 0, 0, 0)), (933, (.iconst 3, 1, 0, 0, 0, 3, 0)), (934, (.iaload, 1, 0, 0, 0, 0, 0)), (935, (.iadd, 1, 0, 0, 0, 0, 0)), (936, (.if_icmp .ne 7, 3, 943, 0, 0, 0, 0)), (939, (.iconst 1, 1, 0, 0, 0, 1, 0)), (940, (.goto 4, 3, 944, 0, 0, 0, 0)), (943, (.iconst 0, 1, 0, 0, 0, 0, 0)), (944, (.ireturn, 1, 0, 0, 1, 0, 0))]]
def tL_fresh : List (List (Nat × E_)) := [[(0, (.iconst 0, 1, 0, 0, 0, 0, 0)), (1, (.istore_n 1, 1, 1, 0, 0, 0, 0)), (2, (.iload_n 1, 1, 1, 0, 0, 0, 0)), (3, (.bipush 40, 2, 0, 0, 0, 40, 0)), (5, (.if_icmp .ge 35, 3, 40, 0, 0, 0, 0)), (8, (.aload_n 0, 1, 0, 0, 0, 0, 0)), (9, (.iload_n 1, 1, 1, 0, 0, 0, 0)), (10, (.iload_n 1, 1, 1, 0, 0, 0, 0)), (11, (.bipush 10, 2, 0, 0, 0, 10, 0)), (13, (.irem, 1, 0, 0, 0, 0, 0)), (14, (.iconst 4, 1, 0, 0, 0, 4, 0)), (15, (.if_icmp .lt 12, 3, 27, 0, 0, 0, 0)), (18, (.iload_n 1, 1, 1, 0, 0, 0, 0)), (19, (.bipush 10, 2, 0, 0, 0, 10, 0)), (21, (.irem, 1, 0, 0, 0, 0, 0)), (22, (.bipush 7, 2, 0, 0, 0, 7, 0)), (24, (.if_icmp .le 8, 3, 32, 0, 0, 0, 0)), (27, (.bipush (-4), 2, 0, 0, 0, (-4), 0)), (29, (.goto 4, 3, 33, 0, 0, 0, 0))],
  [(32, (.iconst 0, 1, 0, 0, 0, 0, 0)), (33, (.iastore, 1, 0, 0, 0, 0, 0)), (34, (.iinc 1 1, 3, 1, 0, 0, 1, 0)), (37, (.goto (-35), 3, 2, 0, 0, 0, 0)), (40, (.return_, 1, 0, 0, 0, 0, 0))]]
def tL_plainest : List (List (Nat × E_)) := [[(0, (.bipush (-4), 2, 0, 0, 0, (-4), 0)), (2, (.istore_n 3, 1, 3, 0, 0, 0, 0)), (3, (.bipush 99, 2, 0, 0, 0, 99, 0)), (5, (.istore 4, 2, 4, 0, 0, 0, 0)), (7, (.iconst 0, 1, 0, 0, 0, 0, 0)), (8, (.istore 5, 2, 5, 0, 0, 0, 0)), (10, (.iload 5, 2, 5, 0, 0, 0, 0)), (12, (.aload_n 1, 1, 1, 0, 0, 0, 0)), (13, (.iconst 1, 1, 0, 0, 0, 1, 0)), (14, (.iaload, 1, 0, 0, 0, 0, 0)), (15, (.if_icmp .ge 56, 3, 71, 0, 0, 0, 0)), (18, (.aload_n 0, 1, 0, 0, 0, 0, 0)), (19, (.iconst 3, 1, 0, 0, 0, 3, 0)), (20, (.iload 5, 2, 5, 0, 0, 0, 0)), (22, (.imul, 1, 0, 0, 0, 0, 0)), (23, (.iaload, 1, 0, 0, 0, 0, 0)), (24, (.invokestatic 78, 3, 127, 49, 1, 372, 0)), (27, (.aload_n 0, 1, 0, 0, 0, 0, 0)), (28, (.iconst 3, 1, 0, 0, 0, 3, 0)), (29, (.iload 5, 2, 5, 0, 0, 0, 0)), (31, (.imul, 1, 0, 0, 0, 0, 0))],
  [(32, (.iconst 1, 1, 0, 0, 0, 1, 0)), (33, (.iadd, 1, 0, 0, 0, 0, 0)), (34, (.iaload, 1, 0, 0, 0, 0, 0)), (35, (.invokestatic 78, 3, 127, 49, 1, 372, 0)), (38, (.iadd, 1, 0, 0, 0, 0, 0)), (39, (.istore 6, 2, 6, 0, 0, 0, 0)), (41, (.iload_n 2, 1, 2, 0, 0, 0, 0)), (42, (.iload 5, 2, 5, 0, 0, 0, 0)), (44, (.ishr, 1, 0, 0, 0, 0, 0)), (45, (.iconst 1, 1, 0, 0, 0, 1, 0)), (46, (.iand, 1, 0, 0, 0, 0, 0)), (47, (.iconst 1, 1, 0, 0, 0, 1, 0)), (48, (.if_icmp .ne 17, 3, 65, 0, 0, 0, 0)), (51, (.iload 6, 2, 6, 0, 0, 0, 0)), (53, (.iload 4, 2, 4, 0, 0, 0, 0)), (55, (.if_icmp .ge 10, 3, 65, 0, 0, 0, 0)), (58, (.iload 5, 2, 5, 0, 0, 0, 0)), (60, (.istore_n 3, 1, 3, 0, 0, 0, 0)), (61, (.iload 6, 2, 6, 0, 0, 0, 0)), (63, (.istore 4, 2, 4, 0, 0, 0, 0))],
  [(65, (.iinc 5 1, 3, 5, 0, 0, 1, 0)), (68, (.goto (-58), 3, 10, 0, 0, 0, 0)), (71, (.iload_n 3, 1, 3, 0, 0, 0, 0)), (72, (.ireturn, 1, 0, 0, 0, 0, 0))]]
def tL_learns : List (List (Nat × E_)) := [[(0, (.bipush 10, 2, 0, 0, 0, 10, 0)), (2, (.iload 4, 2, 4, 0, 0, 0, 0)), (4, (.imul, 1, 0, 0, 0, 0, 0)), (5, (.istore 10, 2, 10, 0, 0, 0, 0)), (7, (.aload_n 0, 1, 0, 0, 0, 0, 0)), (8, (.iload 10, 2, 10, 0, 0, 0, 0)), (10, (.bipush 9, 2, 0, 0, 0, 9, 0)), (12, (.iadd, 1, 0, 0, 0, 0, 0)), (13, (.iaload, 1, 0, 0, 0, 0, 0)), (14, (.ifCond .lt 4, 3, 18, 0, 0, 0, 0)), (17, (.return_, 1, 0, 0, 0, 0, 0)), (18, (.aload_n 2, 1, 2, 0, 0, 0, 0)), (19, (.bipush 6, 2, 0, 0, 0, 6, 0)), (21, (.iload 4, 2, 4, 0, 0, 0, 0)), (23, (.imul, 1, 0, 0, 0, 0, 0)), (24, (.iconst 2, 1, 0, 0, 0, 2, 0)), (25, (.iadd, 1, 0, 0, 0, 0, 0)), (26, (.iaload, 1, 0, 0, 0, 0, 0)), (27, (.iload 7, 2, 7, 0, 0, 0, 0)), (29, (.if_icmp .ne 48, 3, 77, 0, 0, 0, 0))],
  [(32, (.iconst 0, 1, 0, 0, 0, 0, 0)), (33, (.istore 11, 2, 11, 0, 0, 0, 0)), (35, (.iload 11, 2, 11, 0, 0, 0, 0)), (37, (.bipush 8, 2, 0, 0, 0, 8, 0)), (39, (.if_icmp .ge 28, 3, 67, 0, 0, 0, 0)), (42, (.aload_n 0, 1, 0, 0, 0, 0, 0)), (43, (.iload 10, 2, 10, 0, 0, 0, 0)), (45, (.iload 11, 2, 11, 0, 0, 0, 0)), (47, (.iadd, 1, 0, 0, 0, 0, 0)), (48, (.iload 11, 2, 11, 0, 0, 0, 0)), (50, (.iconst 4, 1, 0, 0, 0, 4, 0)), (51, (.if_icmp .ge 8, 3, 59, 0, 0, 0, 0)), (54, (.bipush (-4), 2, 0, 0, 0, (-4), 0)), (56, (.goto 4, 3, 60, 0, 0, 0, 0)), (59, (.iconst 0, 1, 0, 0, 0, 0, 0)), (60, (.iastore, 1, 0, 0, 0, 0, 0)), (61, (.iinc 11 1, 3, 11, 0, 0, 1, 0))],
  [(64, (.goto (-29), 3, 35, 0, 0, 0, 0)), (67, (.aload_n 0, 1, 0, 0, 0, 0, 0)), (68, (.iload 10, 2, 10, 0, 0, 0, 0)), (70, (.bipush 9, 2, 0, 0, 0, 9, 0)), (72, (.iadd, 1, 0, 0, 0, 0, 0)), (73, (.iload 5, 2, 5, 0, 0, 0, 0)), (75, (.iastore, 1, 0, 0, 0, 0, 0)), (76, (.return_, 1, 0, 0, 0, 0, 0)), (77, (.iload 9, 2, 9, 0, 0, 0, 0)), (79, (.aload_n 2, 1, 2, 0, 0, 0, 0)), (80, (.bipush 6, 2, 0, 0, 0, 6, 0)), (82, (.iload 4, 2, 4, 0, 0, 0, 0)), (84, (.imul, 1, 0, 0, 0, 0, 0)), (85, (.iconst 5, 1, 0, 0, 0, 5, 0)), (86, (.iadd, 1, 0, 0, 0, 0, 0)), (87, (.iaload, 1, 0, 0, 0, 0, 0)), (88, (.iand, 1, 0, 0, 0, 0, 0)), (89, (.istore 11, 2, 11, 0, 0, 0, 0)), (91, (.iconst 0, 1, 0, 0, 0, 0, 0)), (92, (.istore 12, 2, 12, 0, 0, 0, 0)), (94, (.iload 12, 2, 12, 0, 0, 0, 0))],
  [(96, (.iconst 4, 1, 0, 0, 0, 4, 0)), (97, (.if_icmp .ge 59, 3, 156, 0, 0, 0, 0)), (100, (.iload 11, 2, 11, 0, 0, 0, 0)), (102, (.aload_n 2, 1, 2, 0, 0, 0, 0)), (103, (.bipush 6, 2, 0, 0, 0, 6, 0)), (105, (.iload 4, 2, 4, 0, 0, 0, 0)), (107, (.imul, 1, 0, 0, 0, 0, 0)), (108, (.iconst 3, 1, 0, 0, 0, 3, 0)), (109, (.iadd, 1, 0, 0, 0, 0, 0)), (110, (.iaload, 1, 0, 0, 0, 0, 0)), (111, (.iconst 1, 1, 0, 0, 0, 1, 0)), (112, (.if_icmp .ne 34, 3, 146, 0, 0, 0, 0)), (115, (.iload 12, 2, 12, 0, 0, 0, 0)), (117, (.iload 6, 2, 6, 0, 0, 0, 0)), (119, (.if_icmp .eq 27, 3, 146, 0, 0, 0, 0)), (122, (.aload_n 0, 1, 0, 0, 0, 0, 0)), (123, (.iload 10, 2, 10, 0, 0, 0, 0)), (125, (.iload 12, 2, 12, 0, 0, 0, 0)), (127, (.iadd, 1, 0, 0, 0, 0, 0))],
  [(128, (.iaload, 1, 0, 0, 0, 0, 0)), (129, (.ifCond .lt 17, 3, 146, 0, 0, 0, 0)), (132, (.iconst 1, 1, 0, 0, 0, 1, 0)), (133, (.aload_n 0, 1, 0, 0, 0, 0, 0)), (134, (.iload 10, 2, 10, 0, 0, 0, 0)), (136, (.iload 12, 2, 12, 0, 0, 0, 0)), (138, (.iadd, 1, 0, 0, 0, 0, 0)), (139, (.iaload, 1, 0, 0, 0, 0, 0)), (140, (.ishl, 1, 0, 0, 0, 0, 0)), (141, (.iconst (-1), 1, 0, 0, 0, (-1), 0)), (142, (.ixor, 1, 0, 0, 0, 0, 0)), (143, (.goto 4, 3, 147, 0, 0, 0, 0)), (146, (.iconst (-1), 1, 0, 0, 0, (-1), 0)), (147, (.iand, 1, 0, 0, 0, 0, 0)), (148, (.istore 11, 2, 11, 0, 0, 0, 0)), (150, (.iinc 12 1, 3, 12, 0, 0, 1, 0)), (153, (.goto (-59), 3, 94, 0, 0, 0, 0)), (156, (.aload_n 0, 1, 0, 0, 0, 0, 0)), (157, (.iload 10, 2, 10, 0, 0, 0, 0)), (159, (.iload 6, 2, 6, 0, 0, 0, 0))],
  [(161, (.iadd, 1, 0, 0, 0, 0, 0)), (162, (.iaload, 1, 0, 0, 0, 0, 0)), (163, (.istore 12, 2, 12, 0, 0, 0, 0)), (165, (.aload_n 1, 1, 1, 0, 0, 0, 0)), (166, (.aload_n 3, 1, 3, 0, 0, 0, 0)), (167, (.iload 11, 2, 11, 0, 0, 0, 0)), (169, (.invokestatic 81, 3, 131, 115, 1, 505, 0)), (172, (.istore 13, 2, 13, 0, 0, 0, 0)), (174, (.aload_n 2, 1, 2, 0, 0, 0, 0)), (175, (.bipush 6, 2, 0, 0, 0, 6, 0)), (177, (.iload 4, 2, 4, 0, 0, 0, 0)), (179, (.imul, 1, 0, 0, 0, 0, 0)), (180, (.iaload, 1, 0, 0, 0, 0, 0)), (181, (.iconst 1, 1, 0, 0, 0, 1, 0)), (182, (.if_icmp .ne 43, 3, 225, 0, 0, 0, 0)), (185, (.aload_n 0, 1, 0, 0, 0, 0, 0)), (186, (.iload 10, 2, 10, 0, 0, 0, 0)), (188, (.bipush 8, 2, 0, 0, 0, 8, 0)), (190, (.iadd, 1, 0, 0, 0, 0, 0)), (191, (.iaload, 1, 0, 0, 0, 0, 0))],
  [(192, (.ifCond .lt 29, 3, 221, 0, 0, 0, 0)), (195, (.iload 11, 2, 11, 0, 0, 0, 0)), (197, (.aload_n 0, 1, 0, 0, 0, 0, 0)), (198, (.iload 10, 2, 10, 0, 0, 0, 0)), (200, (.bipush 8, 2, 0, 0, 0, 8, 0)), (202, (.iadd, 1, 0, 0, 0, 0, 0)), (203, (.iaload, 1, 0, 0, 0, 0, 0)), (204, (.ishr, 1, 0, 0, 0, 0, 0)), (205, (.iconst 1, 1, 0, 0, 0, 1, 0)), (206, (.iand, 1, 0, 0, 0, 0, 0)), (207, (.iconst 1, 1, 0, 0, 0, 1, 0)), (208, (.if_icmp .ne 13, 3, 221, 0, 0, 0, 0)), (211, (.aload_n 0, 1, 0, 0, 0, 0, 0)), (212, (.iload 10, 2, 10, 0, 0, 0, 0)), (214, (.bipush 8, 2, 0, 0, 0, 8, 0)), (216, (.iadd, 1, 0, 0, 0, 0, 0)), (217, (.iaload, 1, 0, 0, 0, 0, 0)), (218, (.goto 5, 3, 223, 0, 0, 0, 0)), (221, (.iload 13, 2, 13, 0, 0, 0, 0)), (223, (.istore 13, 2, 13, 0, 0, 0, 0))],
  [(225, (.aload_n 2, 1, 2, 0, 0, 0, 0)), (226, (.bipush 6, 2, 0, 0, 0, 6, 0)), (228, (.iload 4, 2, 4, 0, 0, 0, 0)), (230, (.imul, 1, 0, 0, 0, 0, 0)), (231, (.iaload, 1, 0, 0, 0, 0, 0)), (232, (.iconst 2, 1, 0, 0, 0, 2, 0)), (233, (.if_icmp .ne 68, 3, 301, 0, 0, 0, 0)), (236, (.iload 13, 2, 13, 0, 0, 0, 0)), (238, (.istore 14, 2, 14, 0, 0, 0, 0)), (240, (.iconst 0, 1, 0, 0, 0, 0, 0)), (241, (.istore 15, 2, 15, 0, 0, 0, 0)), (243, (.iload 15, 2, 15, 0, 0, 0, 0)), (245, (.aload_n 3, 1, 3, 0, 0, 0, 0)), (246, (.iconst 1, 1, 0, 0, 0, 1, 0)), (247, (.iaload, 1, 0, 0, 0, 0, 0)), (248, (.if_icmp .ge 53, 3, 301, 0, 0, 0, 0)), (251, (.iload 14, 2, 14, 0, 0, 0, 0)), (253, (.ifCond .lt 48, 3, 301, 0, 0, 0, 0))],
  [(256, (.iload 11, 2, 11, 0, 0, 0, 0)), (258, (.iload 15, 2, 15, 0, 0, 0, 0)), (260, (.ishr, 1, 0, 0, 0, 0, 0)), (261, (.iconst 1, 1, 0, 0, 0, 1, 0)), (262, (.iand, 1, 0, 0, 0, 0, 0)), (263, (.iconst 1, 1, 0, 0, 0, 1, 0)), (264, (.if_icmp .ne 27, 3, 291, 0, 0, 0, 0)), (267, (.aload_n 1, 1, 1, 0, 0, 0, 0)), (268, (.iconst 3, 1, 0, 0, 0, 3, 0)), (269, (.iload 15, 2, 15, 0, 0, 0, 0)), (271, (.imul, 1, 0, 0, 0, 0, 0)), (272, (.iconst 2, 1, 0, 0, 0, 2, 0)), (273, (.iadd, 1, 0, 0, 0, 0, 0)), (274, (.iaload, 1, 0, 0, 0, 0, 0)), (275, (.aload_n 1, 1, 1, 0, 0, 0, 0)), (276, (.iconst 3, 1, 0, 0, 0, 3, 0)), (277, (.iload 14, 2, 14, 0, 0, 0, 0)), (279, (.imul, 1, 0, 0, 0, 0, 0)), (280, (.iconst 2, 1, 0, 0, 0, 2, 0)), (281, (.iadd, 1, 0, 0, 0, 0, 0)), (282, (.iaload, 1, 0, 0, 0, 0, 0)), (283, (.if_icmp .eq 8, 3, 291, 0, 0, 0, 0)), (286, (.bipush (-4), 2, 0, 0, 0, (-4), 0))],
  [(288, (.goto 5, 3, 293, 0, 0, 0, 0)), (291, (.iload 13, 2, 13, 0, 0, 0, 0)), (293, (.istore 13, 2, 13, 0, 0, 0, 0)), (295, (.iinc 15 1, 3, 15, 0, 0, 1, 0)), (298, (.goto (-55), 3, 243, 0, 0, 0, 0)), (301, (.aload_n 2, 1, 2, 0, 0, 0, 0)), (302, (.bipush 6, 2, 0, 0, 0, 6, 0)), (304, (.iload 4, 2, 4, 0, 0, 0, 0)), (306, (.imul, 1, 0, 0, 0, 0, 0)), (307, (.iaload, 1, 0, 0, 0, 0, 0)), (308, (.iconst 3, 1, 0, 0, 0, 3, 0)), (309, (.if_icmp .ne 73, 3, 382, 0, 0, 0, 0)), (312, (.iload 12, 2, 12, 0, 0, 0, 0)), (314, (.ifCond .lt 68, 3, 382, 0, 0, 0, 0)), (317, (.aload_n 0, 1, 0, 0, 0, 0, 0)), (318, (.iload 10, 2, 10, 0, 0, 0, 0))],
  [(320, (.iconst 4, 1, 0, 0, 0, 4, 0)), (321, (.iadd, 1, 0, 0, 0, 0, 0)), (322, (.iload 6, 2, 6, 0, 0, 0, 0)), (324, (.iadd, 1, 0, 0, 0, 0, 0)), (325, (.dup2, 1, 0, 0, 0, 0, 0)), (326, (.iaload, 1, 0, 0, 0, 0, 0)), (327, (.aload_n 1, 1, 1, 0, 0, 0, 0)), (328, (.iconst 3, 1, 0, 0, 0, 3, 0)), (329, (.iload 12, 2, 12, 0, 0, 0, 0)), (331, (.imul, 1, 0, 0, 0, 0, 0)), (332, (.iconst 2, 1, 0, 0, 0, 2, 0)), (333, (.iadd, 1, 0, 0, 0, 0, 0)), (334, (.iaload, 1, 0, 0, 0, 0, 0)), (335, (.iload 7, 2, 7, 0, 0, 0, 0)), (337, (.ishr, 1, 0, 0, 0, 0, 0)), (338, (.iconst 1, 1, 0, 0, 0, 1, 0)), (339, (.iand, 1, 0, 0, 0, 0, 0)), (340, (.iload 8, 2, 8, 0, 0, 0, 0)), (342, (.if_icmp .eq 7, 3, 349, 0, 0, 0, 0)), (345, (.iconst 1, 1, 0, 0, 0, 1, 0)), (346, (.goto 4, 3, 350, 0, 0, 0, 0)), (349, (.iconst 0, 1, 0, 0, 0, 0, 0)), (350, (.iadd, 1, 0, 0, 0, 0, 0)), (351, (.iastore, 1, 0, 0, 0, 0, 0))],
  [(352, (.aload_n 0, 1, 0, 0, 0, 0, 0)), (353, (.iload 10, 2, 10, 0, 0, 0, 0)), (355, (.iconst 4, 1, 0, 0, 0, 4, 0)), (356, (.iadd, 1, 0, 0, 0, 0, 0)), (357, (.iload 6, 2, 6, 0, 0, 0, 0)), (359, (.iadd, 1, 0, 0, 0, 0, 0)), (360, (.iaload, 1, 0, 0, 0, 0, 0)), (361, (.iconst 2, 1, 0, 0, 0, 2, 0)), (362, (.if_icmp .ge 10, 3, 372, 0, 0, 0, 0)), (365, (.iload 12, 2, 12, 0, 0, 0, 0)), (367, (.istore 13, 2, 13, 0, 0, 0, 0)), (369, (.goto 13, 3, 382, 0, 0, 0, 0)), (372, (.aload_n 0, 1, 0, 0, 0, 0, 0)), (373, (.iload 10, 2, 10, 0, 0, 0, 0)), (375, (.iconst 4, 1, 0, 0, 0, 4, 0)), (376, (.iadd, 1, 0, 0, 0, 0, 0)), (377, (.iload 6, 2, 6, 0, 0, 0, 0)), (379, (.iadd, 1, 0, 0, 0, 0, 0)), (380, (.iconst 0, 1, 0, 0, 0, 0, 0)), (381, (.iastore, 1, 0, 0, 0, 0, 0)), (382, (.aload_n 0, 1, 0, 0, 0, 0, 0)), (383, (.iload 10, 2, 10, 0, 0, 0, 0))],
  [(385, (.iload 6, 2, 6, 0, 0, 0, 0)), (387, (.iadd, 1, 0, 0, 0, 0, 0)), (388, (.iload 13, 2, 13, 0, 0, 0, 0)), (390, (.iastore, 1, 0, 0, 0, 0, 0)), (391, (.aload_n 0, 1, 0, 0, 0, 0, 0)), (392, (.iload 10, 2, 10, 0, 0, 0, 0)), (394, (.bipush 8, 2, 0, 0, 0, 8, 0)), (396, (.iadd, 1, 0, 0, 0, 0, 0)), (397, (.iload 13, 2, 13, 0, 0, 0, 0)), (399, (.ifCond .lt 8, 3, 407, 0, 0, 0, 0)), (402, (.iload 13, 2, 13, 0, 0, 0, 0)), (404, (.goto 10, 3, 414, 0, 0, 0, 0)), (407, (.aload_n 0, 1, 0, 0, 0, 0, 0)), (408, (.iload 10, 2, 10, 0, 0, 0, 0)), (410, (.bipush 8, 2, 0, 0, 0, 8, 0)), (412, (.iadd, 1, 0, 0, 0, 0, 0)), (413, (.iaload, 1, 0, 0, 0, 0, 0)), (414, (.iastore, 1, 0, 0, 0, 0, 0)), (415, (.return_, 1, 0, 0, 0, 0, 0))]]
def tL_fitting : List (List (Nat × E_)) := [[(0, (.iconst 1, 1, 0, 0, 0, 1, 0)), (1, (.aload_n 3, 1, 3, 0, 0, 0, 0)), (2, (.iconst 1, 1, 0, 0, 0, 1, 0)), (3, (.iaload, 1, 0, 0, 0, 0, 0)), (4, (.ishl, 1, 0, 0, 0, 0, 0)), (5, (.iconst 1, 1, 0, 0, 0, 1, 0)), (6, (.isub, 1, 0, 0, 0, 0, 0)), (7, (.istore 5, 2, 5, 0, 0, 0, 0)), (9, (.iconst 0, 1, 0, 0, 0, 0, 0)), (10, (.istore 6, 2, 6, 0, 0, 0, 0)), (12, (.iload 6, 2, 6, 0, 0, 0, 0)), (14, (.iload_n 1, 1, 1, 0, 0, 0, 0)), (15, (.if_icmp .ge 82, 3, 97, 0, 0, 0, 0)), (18, (.iconst 0, 1, 0, 0, 0, 0, 0)), (19, (.istore 7, 2, 7, 0, 0, 0, 0)), (21, (.iload 7, 2, 7, 0, 0, 0, 0)), (23, (.aload_n 3, 1, 3, 0, 0, 0, 0)), (24, (.iconst 1, 1, 0, 0, 0, 1, 0)), (25, (.iaload, 1, 0, 0, 0, 0, 0)), (26, (.if_icmp .ge 65, 3, 91, 0, 0, 0, 0)), (29, (.iload 5, 2, 5, 0, 0, 0, 0)), (31, (.aload_n 0, 1, 0, 0, 0, 0, 0))],
  [(32, (.iconst 3, 1, 0, 0, 0, 3, 0)), (33, (.iload 6, 2, 6, 0, 0, 0, 0)), (35, (.imul, 1, 0, 0, 0, 0, 0)), (36, (.iaload, 1, 0, 0, 0, 0, 0)), (37, (.iload 4, 2, 4, 0, 0, 0, 0)), (39, (.if_icmp .ne 42, 3, 81, 0, 0, 0, 0)), (42, (.aload_n 2, 1, 2, 0, 0, 0, 0)), (43, (.iconst 3, 1, 0, 0, 0, 3, 0)), (44, (.iload 7, 2, 7, 0, 0, 0, 0)), (46, (.imul, 1, 0, 0, 0, 0, 0)), (47, (.iconst 2, 1, 0, 0, 0, 2, 0)), (48, (.iadd, 1, 0, 0, 0, 0, 0)), (49, (.iaload, 1, 0, 0, 0, 0, 0)), (50, (.aload_n 0, 1, 0, 0, 0, 0, 0)), (51, (.iconst 3, 1, 0, 0, 0, 3, 0)), (52, (.iload 6, 2, 6, 0, 0, 0, 0)), (54, (.imul, 1, 0, 0, 0, 0, 0)), (55, (.iconst 1, 1, 0, 0, 0, 1, 0)), (56, (.iadd, 1, 0, 0, 0, 0, 0)), (57, (.iaload, 1, 0, 0, 0, 0, 0)), (58, (.ishr, 1, 0, 0, 0, 0, 0)), (59, (.iconst 1, 1, 0, 0, 0, 1, 0)), (60, (.iand, 1, 0, 0, 0, 0, 0)), (61, (.aload_n 0, 1, 0, 0, 0, 0, 0)), (62, (.iconst 3, 1, 0, 0, 0, 3, 0)), (63, (.iload 6, 2, 6, 0, 0, 0, 0))],
  [(65, (.imul, 1, 0, 0, 0, 0, 0)), (66, (.iconst 2, 1, 0, 0, 0, 2, 0)), (67, (.iadd, 1, 0, 0, 0, 0, 0)), (68, (.iaload, 1, 0, 0, 0, 0, 0)), (69, (.if_icmp .eq 12, 3, 81, 0, 0, 0, 0)), (72, (.iconst 1, 1, 0, 0, 0, 1, 0)), (73, (.iload 7, 2, 7, 0, 0, 0, 0)), (75, (.ishl, 1, 0, 0, 0, 0, 0)), (76, (.iconst (-1), 1, 0, 0, 0, (-1), 0)), (77, (.ixor, 1, 0, 0, 0, 0, 0)), (78, (.goto 4, 3, 82, 0, 0, 0, 0)), (81, (.iconst (-1), 1, 0, 0, 0, (-1), 0)), (82, (.iand, 1, 0, 0, 0, 0, 0)), (83, (.istore 5, 2, 5, 0, 0, 0, 0)), (85, (.iinc 7 1, 3, 7, 0, 0, 1, 0)), (88, (.goto (-67), 3, 21, 0, 0, 0, 0)), (91, (.iinc 6 1, 3, 6, 0, 0, 1, 0)), (94, (.goto (-82), 3, 12, 0, 0, 0, 0))],
  [(97, (.iload 5, 2, 5, 0, 0, 0, 0)), (99, (.ireturn, 1, 0, 0, 0, 0, 0))]]
def tL_isSame : List (List (Nat × E_)) := [[(0, (.aload_n 0, 1, 0, 0, 0, 0, 0)), (1, (.bipush 10, 2, 0, 0, 0, 10, 0)), (3, (.iload_n 3, 1, 3, 0, 0, 0, 0)), (4, (.imul, 1, 0, 0, 0, 0, 0)), (5, (.iload 4, 2, 4, 0, 0, 0, 0)), (7, (.iadd, 1, 0, 0, 0, 0, 0)), (8, (.iaload, 1, 0, 0, 0, 0, 0)), (9, (.istore 5, 2, 5, 0, 0, 0, 0)), (11, (.iload 5, 2, 5, 0, 0, 0, 0)), (13, (.ifCond .lt 28, 3, 41, 0, 0, 0, 0)), (16, (.aload_n 1, 1, 1, 0, 0, 0, 0)), (17, (.iconst 3, 1, 0, 0, 0, 3, 0)), (18, (.iload 5, 2, 5, 0, 0, 0, 0)), (20, (.imul, 1, 0, 0, 0, 0, 0)), (21, (.iconst 2, 1, 0, 0, 0, 2, 0)), (22, (.iadd, 1, 0, 0, 0, 0, 0)), (23, (.iaload, 1, 0, 0, 0, 0, 0)), (24, (.aload_n 1, 1, 1, 0, 0, 0, 0)), (25, (.iconst 3, 1, 0, 0, 0, 3, 0)), (26, (.aload_n 2, 1, 2, 0, 0, 0, 0)), (27, (.iload 4, 2, 4, 0, 0, 0, 0)), (29, (.iaload, 1, 0, 0, 0, 0, 0)), (30, (.imul, 1, 0, 0, 0, 0, 0)), (31, (.iconst 2, 1, 0, 0, 0, 2, 0))],
  [(32, (.iadd, 1, 0, 0, 0, 0, 0)), (33, (.iaload, 1, 0, 0, 0, 0, 0)), (34, (.if_icmp .ne 7, 3, 41, 0, 0, 0, 0)), (37, (.iconst 1, 1, 0, 0, 0, 1, 0)), (38, (.goto 4, 3, 42, 0, 0, 0, 0)), (41, (.iconst 0, 1, 0, 0, 0, 0, 0)), (42, (.ireturn, 1, 0, 0, 1, 0, 0))]]
def tL_all : List (List (Nat × E_)) := [[(0, (.aload_n 0, 1, 0, 0, 0, 0, 0)), (1, (.invokestatic 85, 3, 130, 33, 0, 496, 0)), (4, (.iconst 0, 1, 0, 0, 0, 0, 0)), (5, (.istore 6, 2, 6, 0, 0, 0, 0)), (7, (.iload 6, 2, 6, 0, 0, 0, 0)), (9, (.iload_n 2, 1, 2, 0, 0, 0, 0)), (10, (.if_icmp .ge 83, 3, 93, 0, 0, 0, 0)), (13, (.aload_n 1, 1, 1, 0, 0, 0, 0)), (14, (.iload 6, 2, 6, 0, 0, 0, 0)), (16, (.iconst 1, 1, 0, 0, 0, 1, 0)), (17, (.iadd, 1, 0, 0, 0, 0, 0)), (18, (.aload_n 3, 1, 3, 0, 0, 0, 0)), (19, (.aload 5, 2, 5, 0, 0, 0, 0)), (21, (.aload_n 1, 1, 1, 0, 0, 0, 0)), (22, (.iconst 3, 1, 0, 0, 0, 3, 0)), (23, (.iload 6, 2, 6, 0, 0, 0, 0)), (25, (.imul, 1, 0, 0, 0, 0, 0)), (26, (.iaload, 1, 0, 0, 0, 0, 0)), (27, (.invokestatic 89, 3, 133, 133, 1, 499, 0)), (30, (.istore 7, 2, 7, 0, 0, 0, 0))],
  [(32, (.iconst 0, 1, 0, 0, 0, 0, 0)), (33, (.istore 8, 2, 8, 0, 0, 0, 0)), (35, (.iload 8, 2, 8, 0, 0, 0, 0)), (37, (.aload 5, 2, 5, 0, 0, 0, 0)), (39, (.iconst 3, 1, 0, 0, 0, 3, 0)), (40, (.iaload, 1, 0, 0, 0, 0, 0)), (41, (.if_icmp .ge 46, 3, 87, 0, 0, 0, 0)), (44, (.aload_n 0, 1, 0, 0, 0, 0, 0)), (45, (.aload_n 3, 1, 3, 0, 0, 0, 0)), (46, (.aload 4, 2, 4, 0, 0, 0, 0)), (48, (.aload 5, 2, 5, 0, 0, 0, 0)), (50, (.iload 8, 2, 8, 0, 0, 0, 0)), (52, (.iload 6, 2, 6, 0, 0, 0, 0)), (54, (.aload_n 1, 1, 1, 0, 0, 0, 0)), (55, (.iconst 3, 1, 0, 0, 0, 3, 0)), (56, (.iload 6, 2, 6, 0, 0, 0, 0)), (58, (.imul, 1, 0, 0, 0, 0, 0)), (59, (.iaload, 1, 0, 0, 0, 0, 0)), (60, (.aload_n 1, 1, 1, 0, 0, 0, 0)), (61, (.iconst 3, 1, 0, 0, 0, 3, 0)), (62, (.iload 6, 2, 6, 0, 0, 0, 0))],
  [(64, (.imul, 1, 0, 0, 0, 0, 0)), (65, (.iconst 1, 1, 0, 0, 0, 1, 0)), (66, (.iadd, 1, 0, 0, 0, 0, 0)), (67, (.iaload, 1, 0, 0, 0, 0, 0)), (68, (.aload_n 1, 1, 1, 0, 0, 0, 0)), (69, (.iconst 3, 1, 0, 0, 0, 3, 0)), (70, (.iload 6, 2, 6, 0, 0, 0, 0)), (72, (.imul, 1, 0, 0, 0, 0, 0)), (73, (.iconst 2, 1, 0, 0, 0, 2, 0)), (74, (.iadd, 1, 0, 0, 0, 0, 0)), (75, (.iaload, 1, 0, 0, 0, 0, 0)), (76, (.iload 7, 2, 7, 0, 0, 0, 0)), (78, (.invokestatic 93, 3, 132, 266, 0, 502, 0)), (81, (.iinc 8 1, 3, 8, 0, 0, 1, 0)), (84, (.goto (-49), 3, 35, 0, 0, 0, 0)), (87, (.iinc 6 1, 3, 6, 0, 0, 1, 0)), (90, (.goto (-83), 3, 7, 0, 0, 0, 0)), (93, (.return_, 1, 0, 0, 0, 0, 0))]]
def tJ6_bitCount_0f7a4 : List (List (Nat × E_)) := [[(0, (.iload_n 0, 1, 0, 0, 0, 0, 0)), (1, (.iload_n 0, 1, 0, 0, 0, 0, 0)), (2, (.iconst 1, 1, 0, 0, 0, 1, 0)), (3, (.iushr, 1, 0, 0, 0, 0, 0)), (4, (.ldc_w 265, 3, 0, 286, 0, 1431655765, 0)), (7, (.iand, 1, 0, 0, 0, 0, 0)), (8, (.isub, 1, 0, 0, 0, 0, 0)), (9, (.istore_n 0, 1, 0, 0, 0, 0, 0)), (10, (.iload_n 0, 1, 0, 0, 0, 0, 0)), (11, (.ldc_w 266, 3, 0, 287, 0, 858993459, 0)), (14, (.iand, 1, 0, 0, 0, 0, 0)), (15, (.iload_n 0, 1, 0, 0, 0, 0, 0)), (16, (.iconst 2, 1, 0, 0, 0, 2, 0)), (17, (.iushr, 1, 0, 0, 0, 0, 0)), (18, (.ldc_w 266, 3, 0, 287, 0, 858993459, 0)), (21, (.iand, 1, 0, 0, 0, 0, 0)), (22, (.iadd, 1, 0, 0, 0, 0, 0)), (23, (.istore_n 0, 1, 0, 0, 0, 0, 0)), (24, (.iload_n 0, 1, 0, 0, 0, 0, 0)), (25, (.iload_n 0, 1, 0, 0, 0, 0, 0)), (26, (.iconst 4, 1, 0, 0, 0, 4, 0)), (27, (.iushr, 1, 0, 0, 0, 0, 0)), (28, (.iadd, 1, 0, 0, 0, 0, 0)), (29, (.ldc_w 267, 3, 0, 288, 0, 252645135, 0))],
  [(32, (.iand, 1, 0, 0, 0, 0, 0)), (33, (.istore_n 0, 1, 0, 0, 0, 0, 0)), (34, (.iload_n 0, 1, 0, 0, 0, 0, 0)), (35, (.iload_n 0, 1, 0, 0, 0, 0, 0)), (36, (.bipush 8, 2, 0, 0, 0, 8, 0)), (38, (.iushr, 1, 0, 0, 0, 0, 0)), (39, (.iadd, 1, 0, 0, 0, 0, 0)), (40, (.istore_n 0, 1, 0, 0, 0, 0, 0)), (41, (.iload_n 0, 1, 0, 0, 0, 0, 0)), (42, (.iload_n 0, 1, 0, 0, 0, 0, 0)), (43, (.bipush 16, 2, 0, 0, 0, 16, 0)), (45, (.iushr, 1, 0, 0, 0, 0, 0)), (46, (.iadd, 1, 0, 0, 0, 0, 0)), (47, (.istore_n 0, 1, 0, 0, 0, 0, 0)), (48, (.iload_n 0, 1, 0, 0, 0, 0, 0)), (49, (.bipush 63, 2, 0, 0, 0, 63, 0)), (51, (.iand, 1, 0, 0, 0, 0, 0)), (52, (.ireturn, 1, 0, 0, 0, 0, 0))]]
def tL_law : List (List (Nat × E_)) := [[],
  [(48, (.ifCond .ne 5, 3, 53, 0, 0, 0, 0)), (51, (.iconst 0, 1, 0, 0, 0, 0, 0)), (52, (.ireturn, 1, 0, 0, 1, 0, 0)), (53, (.iconst 0, 1, 0, 0, 0, 0, 0)), (54, (.istore 7, 2, 7, 0, 0, 0, 0)), (56, (.iload 7, 2, 7, 0, 0, 0, 0)), (58, (.aload 6, 2, 6, 0, 0, 0, 0)), (60, (.iconst 0, 1, 0, 0, 0, 0, 0)), (61, (.iaload, 1, 0, 0, 0, 0, 0)), (62, (.if_icmp .ge 24, 3, 86, 0, 0, 0, 0))],
  [(65, (.aload_n 1, 1, 1, 0, 0, 0, 0)), (66, (.iload 7, 2, 7, 0, 0, 0, 0)), (68, (.invokevirtual 102, 3, 71, 6178, 1, 347, 0)), (71, (.aload_n 2, 1, 2, 0, 0, 0, 0)), (72, (.iload 7, 2, 7, 0, 0, 0, 0)), (74, (.iaload, 1, 0, 0, 0, 0, 0)), (75, (.if_icmp .eq 5, 3, 80, 0, 0, 0, 0)), (78, (.iconst 0, 1, 0, 0, 0, 0, 0)), (79, (.ireturn, 1, 0, 0, 1, 0, 0)), (80, (.iinc 7 1, 3, 7, 0, 0, 1, 0)), (83, (.goto (-27), 3, 56, 0, 0, 0, 0)), (86, (.iconst 0, 1, 0, 0, 0, 0, 0)), (87, (.istore 7, 2, 7, 0, 0, 0, 0)), (89, (.iload 7, 2, 7, 0, 0, 0, 0)), (91, (.aload 6, 2, 6, 0, 0, 0, 0)), (93, (.iconst 1, 1, 0, 0, 0, 1, 0)), (94, (.iaload, 1, 0, 0, 0, 0, 0)), (95, (.if_icmp .ge 150, 3, 245, 0, 0, 0, 0))],
  [(98, (.iconst 0, 1, 0, 0, 0, 0, 0)), (99, (.istore 8, 2, 8, 0, 0, 0, 0)), (101, (.iconst 0, 1, 0, 0, 0, 0, 0)), (102, (.istore 9, 2, 9, 0, 0, 0, 0)), (104, (.iload 9, 2, 9, 0, 0, 0, 0)), (106, (.aload 6, 2, 6, 0, 0, 0, 0)), (108, (.iconst 3, 1, 0, 0, 0, 3, 0)), (109, (.iaload, 1, 0, 0, 0, 0, 0)), (110, (.if_icmp .ge 32, 3, 142, 0, 0, 0, 0)), (113, (.iload 8, 2, 8, 0, 0, 0, 0)), (115, (.aload 5, 2, 5, 0, 0, 0, 0)), (117, (.bipush 6, 2, 0, 0, 0, 6, 0)), (119, (.iload 9, 2, 9, 0, 0, 0, 0)), (121, (.imul, 1, 0, 0, 0, 0, 0)), (122, (.iconst 5, 1, 0, 0, 0, 5, 0)), (123, (.iadd, 1, 0, 0, 0, 0, 0)), (124, (.iaload, 1, 0, 0, 0, 0, 0)), (125, (.iload 7, 2, 7, 0, 0, 0, 0)), (127, (.ishr, 1, 0, 0, 0, 0, 0))],
  [(128, (.iconst 1, 1, 0, 0, 0, 1, 0)), (129, (.iand, 1, 0, 0, 0, 0, 0)), (130, (.iload 9, 2, 9, 0, 0, 0, 0)), (132, (.ishl, 1, 0, 0, 0, 0, 0)), (133, (.ior, 1, 0, 0, 0, 0, 0)), (134, (.istore 8, 2, 8, 0, 0, 0, 0)), (136, (.iinc 9 1, 3, 9, 0, 0, 1, 0)), (139, (.goto (-35), 3, 104, 0, 0, 0, 0)), (142, (.aload_n 1, 1, 1, 0, 0, 0, 0)), (143, (.iload 7, 2, 7, 0, 0, 0, 0)), (145, (.iconst 0, 1, 0, 0, 0, 0, 0)), (146, (.invokevirtual 105, 3, 72, 6195, 1, 356, 0)), (149, (.aload_n 3, 1, 3, 0, 0, 0, 0)), (150, (.iconst 3, 1, 0, 0, 0, 3, 0)), (151, (.iload 7, 2, 7, 0, 0, 0, 0)), (153, (.imul, 1, 0, 0, 0, 0, 0)), (154, (.iaload, 1, 0, 0, 0, 0, 0)), (155, (.if_icmp .ne 82, 3, 237, 0, 0, 0, 0)), (158, (.aload_n 1, 1, 1, 0, 0, 0, 0)), (159, (.iload 7, 2, 7, 0, 0, 0, 0))],
  [(161, (.iconst 1, 1, 0, 0, 0, 1, 0)), (162, (.invokevirtual 105, 3, 72, 6195, 1, 356, 0)), (165, (.aload_n 3, 1, 3, 0, 0, 0, 0)), (166, (.iconst 3, 1, 0, 0, 0, 3, 0)), (167, (.iload 7, 2, 7, 0, 0, 0, 0)), (169, (.imul, 1, 0, 0, 0, 0, 0)), (170, (.iconst 1, 1, 0, 0, 0, 1, 0)), (171, (.iadd, 1, 0, 0, 0, 0, 0)), (172, (.iaload, 1, 0, 0, 0, 0, 0)), (173, (.if_icmp .ne 64, 3, 237, 0, 0, 0, 0)), (176, (.aload_n 1, 1, 1, 0, 0, 0, 0)), (177, (.iload 7, 2, 7, 0, 0, 0, 0)), (179, (.iconst 2, 1, 0, 0, 0, 2, 0)), (180, (.invokevirtual 105, 3, 72, 6195, 1, 356, 0)), (183, (.aload_n 3, 1, 3, 0, 0, 0, 0)), (184, (.iconst 3, 1, 0, 0, 0, 3, 0)), (185, (.iload 7, 2, 7, 0, 0, 0, 0)), (187, (.imul, 1, 0, 0, 0, 0, 0)), (188, (.iaload, 1, 0, 0, 0, 0, 0)), (189, (.invokestatic 78, 3, 127, 49, 1, 372, 0))],
  [(192, (.aload_n 3, 1, 3, 0, 0, 0, 0)), (193, (.iconst 3, 1, 0, 0, 0, 3, 0)), (194, (.iload 7, 2, 7, 0, 0, 0, 0)), (196, (.imul, 1, 0, 0, 0, 0, 0)), (197, (.iconst 1, 1, 0, 0, 0, 1, 0)), (198, (.iadd, 1, 0, 0, 0, 0, 0)), (199, (.iaload, 1, 0, 0, 0, 0, 0)), (200, (.invokestatic 78, 3, 127, 49, 1, 372, 0)), (203, (.iadd, 1, 0, 0, 0, 0, 0)), (204, (.if_icmp .ne 33, 3, 237, 0, 0, 0, 0)), (207, (.aload_n 1, 1, 1, 0, 0, 0, 0)), (208, (.iload 7, 2, 7, 0, 0, 0, 0)), (210, (.iconst 3, 1, 0, 0, 0, 3, 0)), (211, (.invokevirtual 105, 3, 72, 6195, 1, 356, 0)), (214, (.aload_n 3, 1, 3, 0, 0, 0, 0)), (215, (.iconst 3, 1, 0, 0, 0, 3, 0)), (216, (.iload 7, 2, 7, 0, 0, 0, 0)), (218, (.imul, 1, 0, 0, 0, 0, 0)), (219, (.iconst 2, 1, 0, 0, 0, 2, 0)), (220, (.iadd, 1, 0, 0, 0, 0, 0)), (221, (.iaload, 1, 0, 0, 0, 0, 0)), (222, (.if_icmp .ne 15, 3, 237, 0, 0, 0, 0))],
  [(225, (.aload_n 1, 1, 1, 0, 0, 0, 0)), (226, (.iload 7, 2, 7, 0, 0, 0, 0)), (228, (.iconst 4, 1, 0, 0, 0, 4, 0)), (229, (.invokevirtual 105, 3, 72, 6195, 1, 356, 0)), (232, (.iload 8, 2, 8, 0, 0, 0, 0)), (234, (.if_icmp .eq 5, 3, 239, 0, 0, 0, 0)), (237, (.iconst 0, 1, 0, 0, 0, 0, 0)), (238, (.ireturn, 1, 0, 0, 1, 0, 0)), (239, (.iinc 7 1, 3, 7, 0, 0, 1, 0)), (242, (.goto (-153), 3, 89, 0, 0, 0, 0)), (245, (.iconst 0, 1, 0, 0, 0, 0, 0)), (246, (.istore 7, 2, 7, 0, 0, 0, 0)), (248, (.iload 7, 2, 7, 0, 0, 0, 0)), (250, (.aload 6, 2, 6, 0, 0, 0, 0)), (252, (.iconst 3, 1, 0, 0, 0, 3, 0)), (253, (.iaload, 1, 0, 0, 0, 0, 0)), (254, (.if_icmp .ge 49, 3, 303, 0, 0, 0, 0))],
  [(257, (.iconst 0, 1, 0, 0, 0, 0, 0)), (258, (.istore 8, 2, 8, 0, 0, 0, 0)), (260, (.iload 8, 2, 8, 0, 0, 0, 0)), (262, (.bipush 6, 2, 0, 0, 0, 6, 0)), (264, (.if_icmp .ge 33, 3, 297, 0, 0, 0, 0)), (267, (.aload_n 1, 1, 1, 0, 0, 0, 0)), (268, (.iload 7, 2, 7, 0, 0, 0, 0)), (270, (.iload 8, 2, 8, 0, 0, 0, 0)), (272, (.invokevirtual 108, 3, 74, 6195, 1, 375, 0)), (275, (.aload 5, 2, 5, 0, 0, 0, 0)), (277, (.bipush 6, 2, 0, 0, 0, 6, 0)), (279, (.iload 7, 2, 7, 0, 0, 0, 0)), (281, (.imul, 1, 0, 0, 0, 0, 0)), (282, (.iload 8, 2, 8, 0, 0, 0, 0)), (284, (.iadd, 1, 0, 0, 0, 0, 0)), (285, (.iaload, 1, 0, 0, 0, 0, 0)), (286, (.if_icmp .eq 5, 3, 291, 0, 0, 0, 0))],
  [(289, (.iconst 0, 1, 0, 0, 0, 0, 0)), (290, (.ireturn, 1, 0, 0, 1, 0, 0)), (291, (.iinc 8 1, 3, 8, 0, 0, 1, 0)), (294, (.goto (-34), 3, 260, 0, 0, 0, 0)), (297, (.iinc 7 1, 3, 7, 0, 0, 1, 0)), (300, (.goto (-52), 3, 248, 0, 0, 0, 0)), (303, (.bipush 60, 2, 0, 0, 0, 60, 0)), (305, (.newarray .int, 2, 305, 0, 0, 0, 0))],
  [(321, (.iconst 0, 1, 0, 0, 0, 0, 0)), (322, (.istore 10, 2, 10, 0, 0, 0, 0)), (324, (.iconst (-1), 1, 0, 0, 0, (-1), 0)), (325, (.istore 11, 2, 11, 0, 0, 0, 0)), (327, (.iconst 0, 1, 0, 0, 0, 0, 0)), (328, (.istore 12, 2, 12, 0, 0, 0, 0)), (330, (.iload 12, 2, 12, 0, 0, 0, 0)), (332, (.bipush 26, 2, 0, 0, 0, 26, 0)), (334, (.if_icmp .ge 971, 3, 1305, 0, 0, 0, 0)), (337, (.aload_n 0, 1, 0, 0, 0, 0, 0)), (338, (.bipush 14, 2, 0, 0, 0, 14, 0)), (340, (.iload 12, 2, 12, 0, 0, 0, 0)), (342, (.iadd, 1, 0, 0, 0, 0, 0)), (343, (.invokestatic 28, 3, 121, 34, 1, 116, 0)), (346, (.istore 13, 2, 13, 0, 0, 0, 0)), (348, (.iload 13, 2, 13, 0, 0, 0, 0)), (350, (.iconst 4, 1, 0, 0, 0, 4, 0)), (351, (.ishr, 1, 0, 0, 0, 0, 0))],
  [(352, (.aload 6, 2, 6, 0, 0, 0, 0)), (354, (.iconst 2, 1, 0, 0, 0, 2, 0)), (355, (.iaload, 1, 0, 0, 0, 0, 0)), (356, (.invokestatic 32, 3, 122, 34, 1, 121, 0)), (359, (.istore 14, 2, 14, 0, 0, 0, 0)), (361, (.iload 13, 2, 13, 0, 0, 0, 0)), (363, (.bipush 6, 2, 0, 0, 0, 6, 0)), (365, (.ishr, 1, 0, 0, 0, 0, 0)), (366, (.aload 6, 2, 6, 0, 0, 0, 0)), (368, (.iconst 0, 1, 0, 0, 0, 0, 0)), (369, (.iaload, 1, 0, 0, 0, 0, 0)), (370, (.invokestatic 32, 3, 122, 34, 1, 121, 0)), (373, (.istore 15, 2, 15, 0, 0, 0, 0)), (375, (.iload 13, 2, 13, 0, 0, 0, 0)), (377, (.bipush 15, 2, 0, 0, 0, 15, 0)), (379, (.iand, 1, 0, 0, 0, 0, 0)), (380, (.istore 16, 2, 16, 0, 0, 0, 0)), (382, (.iload 16, 2, 16, 0, 0, 0, 0))],
  [(384, (.bipush 11, 2, 0, 0, 0, 11, 0)), (386, (.if_icmp .ge 126, 3, 512, 0, 0, 0, 0)), (389, (.iload 10, 2, 10, 0, 0, 0, 0)), (391, (.bipush 20, 2, 0, 0, 0, 20, 0)), (393, (.if_icmp .ge 119, 3, 512, 0, 0, 0, 0)), (396, (.iload 16, 2, 16, 0, 0, 0, 0)), (398, (.bipush 7, 2, 0, 0, 0, 7, 0)), (400, (.if_icmp .ge 22, 3, 422, 0, 0, 0, 0)), (403, (.aload_n 3, 1, 3, 0, 0, 0, 0)), (404, (.iconst 3, 1, 0, 0, 0, 3, 0)), (405, (.aload 4, 2, 4, 0, 0, 0, 0)), (407, (.iload 14, 2, 14, 0, 0, 0, 0)), (409, (.iaload, 1, 0, 0, 0, 0, 0)), (410, (.imul, 1, 0, 0, 0, 0, 0)), (411, (.iconst 2, 1, 0, 0, 0, 2, 0)), (412, (.iadd, 1, 0, 0, 0, 0, 0)), (413, (.iaload, 1, 0, 0, 0, 0, 0)), (414, (.iload 15, 2, 15, 0, 0, 0, 0))],
  [(416, (.ishr, 1, 0, 0, 0, 0, 0)), (417, (.iconst 1, 1, 0, 0, 0, 1, 0)), (418, (.iand, 1, 0, 0, 0, 0, 0)), (419, (.goto 10, 3, 429, 0, 0, 0, 0)), (422, (.iload 13, 2, 13, 0, 0, 0, 0)), (424, (.bipush 9, 2, 0, 0, 0, 9, 0)), (426, (.ishr, 1, 0, 0, 0, 0, 0)), (427, (.iconst 1, 1, 0, 0, 0, 1, 0)), (428, (.iand, 1, 0, 0, 0, 0, 0)), (429, (.istore 17, 2, 17, 0, 0, 0, 0)), (431, (.aload 7, 2, 7, 0, 0, 0, 0)), (433, (.iconst 3, 1, 0, 0, 0, 3, 0)), (434, (.iload 10, 2, 10, 0, 0, 0, 0)), (436, (.imul, 1, 0, 0, 0, 0, 0)), (437, (.iload 14, 2, 14, 0, 0, 0, 0)), (439, (.iastore, 1, 0, 0, 0, 0, 0)), (440, (.aload 7, 2, 7, 0, 0, 0, 0)), (442, (.iconst 3, 1, 0, 0, 0, 3, 0)), (443, (.iload 10, 2, 10, 0, 0, 0, 0)), (445, (.imul, 1, 0, 0, 0, 0, 0)), (446, (.iconst 1, 1, 0, 0, 0, 1, 0)), (447, (.iadd, 1, 0, 0, 0, 0, 0))],
  [(448, (.iload 15, 2, 15, 0, 0, 0, 0)), (450, (.iastore, 1, 0, 0, 0, 0, 0)), (451, (.aload 7, 2, 7, 0, 0, 0, 0)), (453, (.iconst 3, 1, 0, 0, 0, 3, 0)), (454, (.iload 10, 2, 10, 0, 0, 0, 0)), (456, (.imul, 1, 0, 0, 0, 0, 0)), (457, (.iconst 2, 1, 0, 0, 0, 2, 0)), (458, (.iadd, 1, 0, 0, 0, 0, 0)), (459, (.iload 17, 2, 17, 0, 0, 0, 0)), (461, (.iastore, 1, 0, 0, 0, 0, 0)), (462, (.iinc 10 1, 3, 10, 0, 0, 1, 0)), (465, (.iload 16, 2, 16, 0, 0, 0, 0)), (467, (.bipush 7, 2, 0, 0, 0, 7, 0)), (469, (.if_icmp .ge 14, 3, 483, 0, 0, 0, 0)), (472, (.aload_n 1, 1, 1, 0, 0, 0, 0)), (473, (.iload 14, 2, 14, 0, 0, 0, 0)), (475, (.iload 15, 2, 15, 0, 0, 0, 0)), (477, (.invokevirtual 111, 3, 76, 6195, 1, 389, 0))],
  [(480, (.goto 22, 3, 502, 0, 0, 0, 0)), (483, (.aload_n 1, 1, 1, 0, 0, 0, 0)), (484, (.iload 14, 2, 14, 0, 0, 0, 0)), (486, (.iload 15, 2, 15, 0, 0, 0, 0)), (488, (.iload 17, 2, 17, 0, 0, 0, 0)), (490, (.iconst 1, 1, 0, 0, 0, 1, 0)), (491, (.if_icmp .ne 7, 3, 498, 0, 0, 0, 0)), (494, (.iconst 1, 1, 0, 0, 0, 1, 0)), (495, (.goto 4, 3, 499, 0, 0, 0, 0)), (498, (.iconst 0, 1, 0, 0, 0, 0, 0)), (499, (.invokevirtual 114, 3, 75, 6212, 1, 463, 0)), (502, (.iload 10, 2, 10, 0, 0, 0, 0)), (504, (.if_icmp .eq 5, 3, 509, 0, 0, 0, 0)), (507, (.iconst 0, 1, 0, 0, 0, 0, 0)), (508, (.ireturn, 1, 0, 0, 1, 0, 0)), (509, (.goto 212, 3, 721, 0, 0, 0, 0))],
  [(512, (.iload 16, 2, 16, 0, 0, 0, 0)), (514, (.bipush 13, 2, 0, 0, 0, 13, 0)), (516, (.if_icmp .ge 44, 3, 560, 0, 0, 0, 0)), (519, (.aload_n 1, 1, 1, 0, 0, 0, 0)), (520, (.invokevirtual 118, 3, 77, 6161, 1, 464, 0)), (523, (.iload 10, 2, 10, 0, 0, 0, 0)), (525, (.ifCond .ne 8, 3, 533, 0, 0, 0, 0)), (528, (.bipush (-4), 2, 0, 0, 0, (-4), 0)), (530, (.goto 7, 3, 537, 0, 0, 0, 0)), (533, (.iload 10, 2, 10, 0, 0, 0, 0)), (535, (.iconst 1, 1, 0, 0, 0, 1, 0)), (536, (.isub, 1, 0, 0, 0, 0, 0)), (537, (.if_icmp .eq 5, 3, 542, 0, 0, 0, 0)), (540, (.iconst 0, 1, 0, 0, 0, 0, 0)), (541, (.ireturn, 1, 0, 0, 1, 0, 0)), (542, (.iload 10, 2, 10, 0, 0, 0, 0))],
  [(544, (.iload 10, 2, 10, 0, 0, 0, 0)), (546, (.ifCond .ne 7, 3, 553, 0, 0, 0, 0)), (549, (.iconst 0, 1, 0, 0, 0, 0, 0)), (550, (.goto 4, 3, 554, 0, 0, 0, 0)), (553, (.iconst 1, 1, 0, 0, 0, 1, 0)), (554, (.isub, 1, 0, 0, 0, 0, 0)), (555, (.istore 10, 2, 10, 0, 0, 0, 0)), (557, (.goto 164, 3, 721, 0, 0, 0, 0)), (560, (.iload 16, 2, 16, 0, 0, 0, 0)), (562, (.bipush 13, 2, 0, 0, 0, 13, 0)), (564, (.if_icmp .ne 56, 3, 620, 0, 0, 0, 0)), (567, (.aload_n 1, 1, 1, 0, 0, 0, 0)), (568, (.iconst 1, 1, 0, 0, 0, 1, 0)), (569, (.invokevirtual 121, 3, 102, 6194, 1, 472, 0)), (572, (.iload 11, 2, 11, 0, 0, 0, 0)), (574, (.ifCond .ge 7, 3, 581, 0, 0, 0, 0))],
  [(577, (.iconst 0, 1, 0, 0, 0, 0, 0)), (578, (.goto 4, 3, 582, 0, 0, 0, 0)), (581, (.iconst 1, 1, 0, 0, 0, 1, 0)), (582, (.if_icmp .eq 5, 3, 587, 0, 0, 0, 0)), (585, (.iconst 0, 1, 0, 0, 0, 0, 0)), (586, (.ireturn, 1, 0, 0, 1, 0, 0)), (587, (.iload 10, 2, 10, 0, 0, 0, 0)), (589, (.istore 11, 2, 11, 0, 0, 0, 0)), (591, (.iconst 0, 1, 0, 0, 0, 0, 0)), (592, (.istore 17, 2, 17, 0, 0, 0, 0)), (594, (.iload 17, 2, 17, 0, 0, 0, 0)), (596, (.bipush 60, 2, 0, 0, 0, 60, 0)), (598, (.if_icmp .ge 19, 3, 617, 0, 0, 0, 0)), (601, (.aload 9, 2, 9, 0, 0, 0, 0)), (603, (.iload 17, 2, 17, 0, 0, 0, 0)), (605, (.aload 7, 2, 7, 0, 0, 0, 0)), (607, (.iload 17, 2, 17, 0, 0, 0, 0))],
  [(609, (.iaload, 1, 0, 0, 0, 0, 0)), (610, (.iastore, 1, 0, 0, 0, 0, 0)), (611, (.iinc 17 1, 3, 17, 0, 0, 1, 0)), (614, (.goto (-20), 3, 594, 0, 0, 0, 0)), (617, (.goto 104, 3, 721, 0, 0, 0, 0)), (620, (.iload 16, 2, 16, 0, 0, 0, 0)), (622, (.bipush 14, 2, 0, 0, 0, 14, 0)), (624, (.if_icmp .ne 73, 3, 697, 0, 0, 0, 0)), (627, (.aload_n 1, 1, 1, 0, 0, 0, 0)), (628, (.iconst 1, 1, 0, 0, 0, 1, 0)), (629, (.invokevirtual 124, 3, 103, 6178, 1, 484, 0)), (632, (.iload 11, 2, 11, 0, 0, 0, 0)), (634, (.ifCond .ge 8, 3, 642, 0, 0, 0, 0)), (637, (.bipush (-2), 2, 0, 0, 0, (-2), 0)), (639, (.goto 5, 3, 644, 0, 0, 0, 0))],
  [(642, (.iload 11, 2, 11, 0, 0, 0, 0)), (644, (.if_icmp .eq 5, 3, 649, 0, 0, 0, 0)), (647, (.iconst 0, 1, 0, 0, 0, 0, 0)), (648, (.ireturn, 1, 0, 0, 1, 0, 0)), (649, (.iconst 0, 1, 0, 0, 0, 0, 0)), (650, (.istore 17, 2, 17, 0, 0, 0, 0)), (652, (.iload 17, 2, 17, 0, 0, 0, 0)), (654, (.bipush 60, 2, 0, 0, 0, 60, 0)), (656, (.if_icmp .ge 24, 3, 680, 0, 0, 0, 0)), (659, (.iload 11, 2, 11, 0, 0, 0, 0)), (661, (.ifCond .lt 19, 3, 680, 0, 0, 0, 0)), (664, (.aload 7, 2, 7, 0, 0, 0, 0)), (666, (.iload 17, 2, 17, 0, 0, 0, 0)), (668, (.aload 9, 2, 9, 0, 0, 0, 0)), (670, (.iload 17, 2, 17, 0, 0, 0, 0))],
  [(672, (.iaload, 1, 0, 0, 0, 0, 0)), (673, (.iastore, 1, 0, 0, 0, 0, 0)), (674, (.iinc 17 1, 3, 17, 0, 0, 1, 0)), (677, (.goto (-25), 3, 652, 0, 0, 0, 0)), (680, (.iload 11, 2, 11, 0, 0, 0, 0)), (682, (.ifCond .lt 8, 3, 690, 0, 0, 0, 0)), (685, (.iload 11, 2, 11, 0, 0, 0, 0)), (687, (.goto 5, 3, 692, 0, 0, 0, 0)), (690, (.iload 10, 2, 10, 0, 0, 0, 0)), (692, (.istore 10, 2, 10, 0, 0, 0, 0)), (694, (.goto 27, 3, 721, 0, 0, 0, 0)), (697, (.iload 13, 2, 13, 0, 0, 0, 0)), (699, (.bipush 9, 2, 0, 0, 0, 9, 0)), (701, (.ishr, 1, 0, 0, 0, 0, 0)), (702, (.iconst 3, 1, 0, 0, 0, 3, 0)), (703, (.iand, 1, 0, 0, 0, 0, 0))],
  [(704, (.ifCond .ne 17, 3, 721, 0, 0, 0, 0)), (707, (.aload_n 1, 1, 1, 0, 0, 0, 0)), (708, (.invokevirtual 127, 3, 78, 6177, 1, 488, 0)), (711, (.iload 10, 2, 10, 0, 0, 0, 0)), (713, (.if_icmp .eq 5, 3, 718, 0, 0, 0, 0)), (716, (.iconst 0, 1, 0, 0, 0, 0, 0)), (717, (.ireturn, 1, 0, 0, 1, 0, 0)), (718, (.iconst 0, 1, 0, 0, 0, 0, 0)), (719, (.istore 10, 2, 10, 0, 0, 0, 0)), (721, (.aload 8, 2, 8, 0, 0, 0, 0)), (723, (.aload 7, 2, 7, 0, 0, 0, 0)), (725, (.iload 10, 2, 10, 0, 0, 0, 0)), (727, (.aload_n 3, 1, 3, 0, 0, 0, 0)), (728, (.aload 5, 2, 5, 0, 0, 0, 0)), (730, (.aload 6, 2, 6, 0, 0, 0, 0)), (732, (.invokestatic 130, 3, 135, 150, 0, 493, 0)), (735, (.aload_n 1, 1, 1, 0, 0, 0, 0))],
  [(736, (.iconst 4, 1, 0, 0, 0, 4, 0)), (737, (.invokevirtual 134, 3, 108, 6178, 1, 508, 0)), (740, (.iload 10, 2, 10, 0, 0, 0, 0)), (742, (.if_icmp .ne 82, 3, 824, 0, 0, 0, 0)), (745, (.iload 10, 2, 10, 0, 0, 0, 0)), (747, (.ifCond .le 66, 3, 813, 0, 0, 0, 0)), (750, (.aload_n 1, 1, 1, 0, 0, 0, 0)), (751, (.iload 10, 2, 10, 0, 0, 0, 0)), (753, (.iconst 1, 1, 0, 0, 0, 1, 0)), (754, (.isub, 1, 0, 0, 0, 0, 0)), (755, (.iconst 0, 1, 0, 0, 0, 0, 0)), (756, (.invokevirtual 137, 3, 79, 6195, 1, 522, 0)), (759, (.aload 7, 2, 7, 0, 0, 0, 0)), (761, (.iconst 3, 1, 0, 0, 0, 3, 0)), (762, (.iload 10, 2, 10, 0, 0, 0, 0)), (764, (.imul, 1, 0, 0, 0, 0, 0)), (765, (.iconst 3, 1, 0, 0, 0, 3, 0)), (766, (.isub, 1, 0, 0, 0, 0, 0)), (767, (.iaload, 1, 0, 0, 0, 0, 0))],
  [(768, (.if_icmp .ne 56, 3, 824, 0, 0, 0, 0)), (771, (.aload_n 1, 1, 1, 0, 0, 0, 0)), (772, (.iload 10, 2, 10, 0, 0, 0, 0)), (774, (.iconst 1, 1, 0, 0, 0, 1, 0)), (775, (.isub, 1, 0, 0, 0, 0, 0)), (776, (.iconst 1, 1, 0, 0, 0, 1, 0)), (777, (.invokevirtual 137, 3, 79, 6195, 1, 522, 0)), (780, (.aload 7, 2, 7, 0, 0, 0, 0)), (782, (.iconst 3, 1, 0, 0, 0, 3, 0)), (783, (.iload 10, 2, 10, 0, 0, 0, 0)), (785, (.imul, 1, 0, 0, 0, 0, 0)), (786, (.iconst 2, 1, 0, 0, 0, 2, 0)), (787, (.isub, 1, 0, 0, 0, 0, 0)), (788, (.iaload, 1, 0, 0, 0, 0, 0)), (789, (.if_icmp .ne 35, 3, 824, 0, 0, 0, 0)), (792, (.aload_n 1, 1, 1, 0, 0, 0, 0)), (793, (.iload 10, 2, 10, 0, 0, 0, 0)), (795, (.iconst 1, 1, 0, 0, 0, 1, 0)), (796, (.isub, 1, 0, 0, 0, 0, 0)), (797, (.iconst 2, 1, 0, 0, 0, 2, 0)), (798, (.invokevirtual 137, 3, 79, 6195, 1, 522, 0))],
  [(801, (.aload 7, 2, 7, 0, 0, 0, 0)), (803, (.iconst 3, 1, 0, 0, 0, 3, 0)), (804, (.iload 10, 2, 10, 0, 0, 0, 0)), (806, (.imul, 1, 0, 0, 0, 0, 0)), (807, (.iconst 1, 1, 0, 0, 0, 1, 0)), (808, (.isub, 1, 0, 0, 0, 0, 0)), (809, (.iaload, 1, 0, 0, 0, 0, 0)), (810, (.if_icmp .ne 14, 3, 824, 0, 0, 0, 0)), (813, (.aload_n 1, 1, 1, 0, 0, 0, 0)), (814, (.iload 10, 2, 10, 0, 0, 0, 0)), (816, (.iconst 0, 1, 0, 0, 0, 0, 0)), (817, (.invokevirtual 137, 3, 79, 6195, 1, 522, 0)), (820, (.iconst (-1), 1, 0, 0, 0, (-1), 0)), (821, (.if_icmp .eq 5, 3, 826, 0, 0, 0, 0)), (824, (.iconst 0, 1, 0, 0, 0, 0, 0)), (825, (.ireturn, 1, 0, 0, 1, 0, 0)), (826, (.iload 13, 2, 13, 0, 0, 0, 0)), (828, (.bipush 10, 2, 0, 0, 0, 10, 0)), (830, (.ishr, 1, 0, 0, 0, 0, 0)), (831, (.iconst 1, 1, 0, 0, 0, 1, 0))],
  [(832, (.aload 6, 2, 6, 0, 0, 0, 0)), (834, (.iconst 3, 1, 0, 0, 0, 3, 0)), (835, (.iaload, 1, 0, 0, 0, 0, 0)), (836, (.ishl, 1, 0, 0, 0, 0, 0)), (837, (.invokestatic 32, 3, 122, 34, 1, 121, 0)), (840, (.istore 17, 2, 17, 0, 0, 0, 0)), (842, (.iconst 0, 1, 0, 0, 0, 0, 0)), (843, (.istore 18, 2, 18, 0, 0, 0, 0)), (845, (.iconst 0, 1, 0, 0, 0, 0, 0)), (846, (.istore 19, 2, 19, 0, 0, 0, 0)), (848, (.iload 19, 2, 19, 0, 0, 0, 0)), (850, (.aload 6, 2, 6, 0, 0, 0, 0)), (852, (.iconst 2, 1, 0, 0, 0, 2, 0)), (853, (.iaload, 1, 0, 0, 0, 0, 0)), (854, (.if_icmp .ge 432, 3, 1286, 0, 0, 0, 0)), (857, (.aload 7, 2, 7, 0, 0, 0, 0)), (859, (.iload 10, 2, 10, 0, 0, 0, 0)), (861, (.aload_n 3, 1, 3, 0, 0, 0, 0)), (862, (.aload 6, 2, 6, 0, 0, 0, 0))],
  [(864, (.iload 19, 2, 19, 0, 0, 0, 0)), (866, (.invokestatic 89, 3, 133, 133, 1, 499, 0)), (869, (.istore 20, 2, 20, 0, 0, 0, 0)), (871, (.iconst 1, 1, 0, 0, 0, 1, 0)), (872, (.istore 21, 2, 21, 0, 0, 0, 0)), (874, (.iconst 0, 1, 0, 0, 0, 0, 0)), (875, (.istore 22, 2, 22, 0, 0, 0, 0)), (877, (.iconst 0, 1, 0, 0, 0, 0, 0)), (878, (.istore 23, 2, 23, 0, 0, 0, 0)), (880, (.iconst 0, 1, 0, 0, 0, 0, 0)), (881, (.istore 24, 2, 24, 0, 0, 0, 0)), (883, (.iload 24, 2, 24, 0, 0, 0, 0)), (885, (.aload 6, 2, 6, 0, 0, 0, 0)), (887, (.iconst 3, 1, 0, 0, 0, 3, 0)), (888, (.iaload, 1, 0, 0, 0, 0, 0)), (889, (.if_icmp .ge 287, 3, 1176, 0, 0, 0, 0)), (892, (.aload 8, 2, 8, 0, 0, 0, 0)), (894, (.aload_n 3, 1, 3, 0, 0, 0, 0)), (895, (.aload 4, 2, 4, 0, 0, 0, 0))],
  [(897, (.iload 24, 2, 24, 0, 0, 0, 0)), (899, (.iload 19, 2, 19, 0, 0, 0, 0)), (901, (.invokestatic 140, 3, 134, 101, 1, 526, 0)), (904, (.istore 25, 2, 25, 0, 0, 0, 0)), (906, (.iload 21, 2, 21, 0, 0, 0, 0)), (908, (.ifCond .eq 22, 3, 930, 0, 0, 0, 0)), (911, (.iload 17, 2, 17, 0, 0, 0, 0)), (913, (.iload 24, 2, 24, 0, 0, 0, 0)), (915, (.ishr, 1, 0, 0, 0, 0, 0)), (916, (.iconst 1, 1, 0, 0, 0, 1, 0)), (917, (.iand, 1, 0, 0, 0, 0, 0)), (918, (.ifCond .eq 8, 3, 926, 0, 0, 0, 0)), (921, (.iload 25, 2, 25, 0, 0, 0, 0)), (923, (.ifCond .eq 7, 3, 930, 0, 0, 0, 0)), (926, (.iconst 1, 1, 0, 0, 0, 1, 0)), (927, (.goto 4, 3, 931, 0, 0, 0, 0))],
  [(930, (.iconst 0, 1, 0, 0, 0, 0, 0)), (931, (.istore 21, 2, 21, 0, 0, 0, 0)), (933, (.iload 22, 2, 22, 0, 0, 0, 0)), (935, (.iload 25, 2, 25, 0, 0, 0, 0)), (937, (.ifCond .eq 16, 3, 953, 0, 0, 0, 0)), (940, (.aload 5, 2, 5, 0, 0, 0, 0)), (942, (.bipush 6, 2, 0, 0, 0, 6, 0)), (944, (.iload 24, 2, 24, 0, 0, 0, 0)), (946, (.imul, 1, 0, 0, 0, 0, 0)), (947, (.iconst 4, 1, 0, 0, 0, 4, 0)), (948, (.iadd, 1, 0, 0, 0, 0, 0)), (949, (.iaload, 1, 0, 0, 0, 0, 0)), (950, (.goto 4, 3, 954, 0, 0, 0, 0)), (953, (.iconst 0, 1, 0, 0, 0, 0, 0)), (954, (.iadd, 1, 0, 0, 0, 0, 0)), (955, (.istore 22, 2, 22, 0, 0, 0, 0)), (957, (.iload 23, 2, 23, 0, 0, 0, 0)), (959, (.aload 5, 2, 5, 0, 0, 0, 0))],
  [(961, (.bipush 6, 2, 0, 0, 0, 6, 0)), (963, (.iload 24, 2, 24, 0, 0, 0, 0)), (965, (.imul, 1, 0, 0, 0, 0, 0)), (966, (.iconst 4, 1, 0, 0, 0, 4, 0)), (967, (.iadd, 1, 0, 0, 0, 0, 0)), (968, (.iaload, 1, 0, 0, 0, 0, 0)), (969, (.iadd, 1, 0, 0, 0, 0, 0)), (970, (.istore 23, 2, 23, 0, 0, 0, 0)), (972, (.aload 8, 2, 8, 0, 0, 0, 0)), (974, (.bipush 10, 2, 0, 0, 0, 10, 0)), (976, (.iload 24, 2, 24, 0, 0, 0, 0)), (978, (.imul, 1, 0, 0, 0, 0, 0)), (979, (.iload 19, 2, 19, 0, 0, 0, 0)), (981, (.iadd, 1, 0, 0, 0, 0, 0)), (982, (.iaload, 1, 0, 0, 0, 0, 0)), (983, (.istore 26, 2, 26, 0, 0, 0, 0)), (985, (.iload 26, 2, 26, 0, 0, 0, 0)), (987, (.ifCond .ge 8, 3, 995, 0, 0, 0, 0)), (990, (.bipush (-4), 2, 0, 0, 0, (-4), 0))],
  [(992, (.goto 16, 3, 1008, 0, 0, 0, 0)), (995, (.aload_n 3, 1, 3, 0, 0, 0, 0)), (996, (.iconst 3, 1, 0, 0, 0, 3, 0)), (997, (.iload 26, 2, 26, 0, 0, 0, 0)), (999, (.imul, 1, 0, 0, 0, 0, 0)), (1000, (.iconst 2, 1, 0, 0, 0, 2, 0)), (1001, (.iadd, 1, 0, 0, 0, 0, 0)), (1002, (.iaload, 1, 0, 0, 0, 0, 0)), (1003, (.iload 15, 2, 15, 0, 0, 0, 0)), (1005, (.ishr, 1, 0, 0, 0, 0, 0)), (1006, (.iconst 1, 1, 0, 0, 0, 1, 0)), (1007, (.iand, 1, 0, 0, 0, 0, 0)), (1008, (.istore 27, 2, 27, 0, 0, 0, 0)), (1010, (.aload_n 1, 1, 1, 0, 0, 0, 0)), (1011, (.iload 24, 2, 24, 0, 0, 0, 0)), (1013, (.iload 19, 2, 19, 0, 0, 0, 0)), (1015, (.invokevirtual 144, 3, 80, 6195, 1, 529, 0)), (1018, (.iload 26, 2, 26, 0, 0, 0, 0)), (1020, (.if_icmp .ne 148, 3, 1168, 0, 0, 0, 0)), (1023, (.aload_n 1, 1, 1, 0, 0, 0, 0))],
  [(1024, (.iload 24, 2, 24, 0, 0, 0, 0)), (1026, (.iload 19, 2, 19, 0, 0, 0, 0)), (1028, (.invokevirtual 147, 3, 84, 6195, 1, 534, 0)), (1031, (.aload 8, 2, 8, 0, 0, 0, 0)), (1033, (.bipush 10, 2, 0, 0, 0, 10, 0)), (1035, (.iload 24, 2, 24, 0, 0, 0, 0)), (1037, (.imul, 1, 0, 0, 0, 0, 0)), (1038, (.iconst 4, 1, 0, 0, 0, 4, 0)), (1039, (.iadd, 1, 0, 0, 0, 0, 0)), (1040, (.iload 19, 2, 19, 0, 0, 0, 0)), (1042, (.iadd, 1, 0, 0, 0, 0, 0)), (1043, (.iaload, 1, 0, 0, 0, 0, 0)), (1044, (.if_icmp .ne 124, 3, 1168, 0, 0, 0, 0)), (1047, (.aload_n 1, 1, 1, 0, 0, 0, 0)), (1048, (.iload 24, 2, 24, 0, 0, 0, 0)), (1050, (.iload 19, 2, 19, 0, 0, 0, 0)), (1052, (.invokevirtual 150, 3, 82, 6195, 1, 539, 0)), (1055, (.iload 25, 2, 25, 0, 0, 0, 0))],
  [(1057, (.ifCond .eq 7, 3, 1064, 0, 0, 0, 0)), (1060, (.iconst 1, 1, 0, 0, 0, 1, 0)), (1061, (.goto 4, 3, 1065, 0, 0, 0, 0)), (1064, (.iconst 0, 1, 0, 0, 0, 0, 0)), (1065, (.if_icmp .ne 103, 3, 1168, 0, 0, 0, 0)), (1068, (.aload_n 1, 1, 1, 0, 0, 0, 0)), (1069, (.iload 24, 2, 24, 0, 0, 0, 0)), (1071, (.iload 19, 2, 19, 0, 0, 0, 0)), (1073, (.invokevirtual 153, 3, 81, 6195, 1, 551, 0)), (1076, (.iload 20, 2, 20, 0, 0, 0, 0)), (1078, (.aload 5, 2, 5, 0, 0, 0, 0)), (1080, (.bipush 6, 2, 0, 0, 0, 6, 0)), (1082, (.iload 24, 2, 24, 0, 0, 0, 0)), (1084, (.imul, 1, 0, 0, 0, 0, 0)), (1085, (.iconst 5, 1, 0, 0, 0, 5, 0)), (1086, (.iadd, 1, 0, 0, 0, 0, 0)), (1087, (.iaload, 1, 0, 0, 0, 0, 0))],
  [(1088, (.iand, 1, 0, 0, 0, 0, 0)), (1089, (.if_icmp .ne 79, 3, 1168, 0, 0, 0, 0)), (1092, (.aload_n 1, 1, 1, 0, 0, 0, 0)), (1093, (.iload 24, 2, 24, 0, 0, 0, 0)), (1095, (.invokevirtual 156, 3, 83, 6178, 1, 556, 0)), (1098, (.aload 8, 2, 8, 0, 0, 0, 0)), (1100, (.bipush 10, 2, 0, 0, 0, 10, 0)), (1102, (.iload 24, 2, 24, 0, 0, 0, 0)), (1104, (.imul, 1, 0, 0, 0, 0, 0)), (1105, (.bipush 9, 2, 0, 0, 0, 9, 0)), (1107, (.iadd, 1, 0, 0, 0, 0, 0)), (1108, (.iaload, 1, 0, 0, 0, 0, 0)), (1109, (.if_icmp .ne 59, 3, 1168, 0, 0, 0, 0)), (1112, (.aload_n 1, 1, 1, 0, 0, 0, 0)), (1113, (.iload 24, 2, 24, 0, 0, 0, 0)), (1115, (.iload 19, 2, 19, 0, 0, 0, 0)), (1117, (.iload 15, 2, 15, 0, 0, 0, 0)), (1119, (.invokevirtual 159, 3, 91, 6212, 1, 561, 0))],
  [(1122, (.iload 27, 2, 27, 0, 0, 0, 0)), (1124, (.if_icmp .ne 44, 3, 1168, 0, 0, 0, 0)), (1127, (.aload 5, 2, 5, 0, 0, 0, 0)), (1129, (.bipush 6, 2, 0, 0, 0, 6, 0)), (1131, (.iload 24, 2, 24, 0, 0, 0, 0)), (1133, (.imul, 1, 0, 0, 0, 0, 0)), (1134, (.iaload, 1, 0, 0, 0, 0, 0)), (1135, (.iconst 3, 1, 0, 0, 0, 3, 0)), (1136, (.if_icmp .eq 34, 3, 1170, 0, 0, 0, 0)), (1139, (.iload 26, 2, 26, 0, 0, 0, 0)), (1141, (.ifCond .lt 29, 3, 1170, 0, 0, 0, 0)), (1144, (.aload 8, 2, 8, 0, 0, 0, 0)), (1146, (.bipush 10, 2, 0, 0, 0, 10, 0)), (1148, (.iload 24, 2, 24, 0, 0, 0, 0)), (1150, (.imul, 1, 0, 0, 0, 0, 0)), (1151, (.bipush 9, 2, 0, 0, 0, 9, 0))],
  [(1153, (.iadd, 1, 0, 0, 0, 0, 0)), (1154, (.iaload, 1, 0, 0, 0, 0, 0)), (1155, (.ifCond .ge 15, 3, 1170, 0, 0, 0, 0)), (1158, (.iload 20, 2, 20, 0, 0, 0, 0)), (1160, (.iload 26, 2, 26, 0, 0, 0, 0)), (1162, (.ishr, 1, 0, 0, 0, 0, 0)), (1163, (.iconst 1, 1, 0, 0, 0, 1, 0)), (1164, (.iand, 1, 0, 0, 0, 0, 0)), (1165, (.ifCond .ne 5, 3, 1170, 0, 0, 0, 0)), (1168, (.iconst 0, 1, 0, 0, 0, 0, 0)), (1169, (.ireturn, 1, 0, 0, 1, 0, 0)), (1170, (.iinc 24 1, 3, 24, 0, 0, 1, 0)), (1173, (.goto (-290), 3, 883, 0, 0, 0, 0)), (1176, (.iload 18, 2, 18, 0, 0, 0, 0)), (1178, (.iload 21, 2, 21, 0, 0, 0, 0)), (1180, (.ifCond .eq 10, 3, 1190, 0, 0, 0, 0)), (1183, (.iconst 1, 1, 0, 0, 0, 1, 0))],
  [(1184, (.iload 19, 2, 19, 0, 0, 0, 0)), (1186, (.ishl, 1, 0, 0, 0, 0, 0)), (1187, (.goto 4, 3, 1191, 0, 0, 0, 0)), (1190, (.iconst 0, 1, 0, 0, 0, 0, 0)), (1191, (.ior, 1, 0, 0, 0, 0, 0)), (1192, (.istore 18, 2, 18, 0, 0, 0, 0)), (1194, (.aload_n 1, 1, 1, 0, 0, 0, 0)), (1195, (.iload 19, 2, 19, 0, 0, 0, 0)), (1197, (.iconst 0, 1, 0, 0, 0, 0, 0)), (1198, (.invokevirtual 163, 3, 96, 6211, 1, 571, 0)), (1201, (.istore 24, 2, 24, 0, 0, 0, 0)), (1203, (.aload_n 1, 1, 1, 0, 0, 0, 0)), (1204, (.iload 19, 2, 19, 0, 0, 0, 0)), (1206, (.iconst 1, 1, 0, 0, 0, 1, 0)), (1207, (.invokevirtual 163, 3, 96, 6211, 1, 571, 0)), (1210, (.istore 25, 2, 25, 0, 0, 0, 0)), (1212, (.iload 23, 2, 23, 0, 0, 0, 0)), (1214, (.ifCond .ne 20, 3, 1234, 0, 0, 0, 0))],
  [(1217, (.iload 24, 2, 24, 0, 0, 0, 0)), (1219, (.bipush (-4), 2, 0, 0, 0, (-4), 0)), (1221, (.if_icmp .ne 57, 3, 1278, 0, 0, 0, 0)), (1224, (.iload 25, 2, 25, 0, 0, 0, 0)), (1226, (.bipush (-4), 2, 0, 0, 0, (-4), 0)), (1228, (.if_icmp .eq 52, 3, 1280, 0, 0, 0, 0)), (1231, (.goto 47, 3, 1278, 0, 0, 0, 0)), (1234, (.iload 25, 2, 25, 0, 0, 0, 0)), (1236, (.iconst 1, 1, 0, 0, 0, 1, 0)), (1237, (.if_icmp .lt 41, 3, 1278, 0, 0, 0, 0)), (1240, (.iload 24, 2, 24, 0, 0, 0, 0)), (1242, (.iload 23, 2, 23, 0, 0, 0, 0)), (1244, (.imul, 1, 0, 0, 0, 0, 0)), (1245, (.iload 22, 2, 22, 0, 0, 0, 0)), (1247, (.iload 25, 2, 25, 0, 0, 0, 0))],
  [(1249, (.imul, 1, 0, 0, 0, 0, 0)), (1250, (.if_icmp .ne 28, 3, 1278, 0, 0, 0, 0)), (1253, (.iload 24, 2, 24, 0, 0, 0, 0)), (1255, (.ifCond .ne 9, 3, 1264, 0, 0, 0, 0)), (1258, (.iload 25, 2, 25, 0, 0, 0, 0)), (1260, (.iconst 1, 1, 0, 0, 0, 1, 0)), (1261, (.if_icmp .ne 17, 3, 1278, 0, 0, 0, 0)), (1264, (.iload 24, 2, 24, 0, 0, 0, 0)), (1266, (.iload 22, 2, 22, 0, 0, 0, 0)), (1268, (.if_icmp .gt 10, 3, 1278, 0, 0, 0, 0)), (1271, (.iload 25, 2, 25, 0, 0, 0, 0)), (1273, (.iload 23, 2, 23, 0, 0, 0, 0)), (1275, (.if_icmp .le 5, 3, 1280, 0, 0, 0, 0)), (1278, (.iconst 0, 1, 0, 0, 0, 0, 0)), (1279, (.ireturn, 1, 0, 0, 1, 0, 0))],
  [(1280, (.iinc 19 1, 3, 19, 0, 0, 1, 0)), (1283, (.goto (-435), 3, 848, 0, 0, 0, 0)), (1286, (.aload_n 1, 1, 1, 0, 0, 0, 0)), (1287, (.iload 17, 2, 17, 0, 0, 0, 0)), (1289, (.invokevirtual 166, 3, 85, 6210, 1, 588, 0)), (1292, (.iload 18, 2, 18, 0, 0, 0, 0)), (1294, (.if_icmp .eq 5, 3, 1299, 0, 0, 0, 0)), (1297, (.iconst 0, 1, 0, 0, 0, 0, 0)), (1298, (.ireturn, 1, 0, 0, 1, 0, 0)), (1299, (.iinc 12 1, 3, 12, 0, 0, 1, 0)), (1302, (.goto (-972), 3, 330, 0, 0, 0, 0)), (1305, (.aload_n 1, 1, 1, 0, 0, 0, 0)), (1306, (.aload 6, 2, 6, 0, 0, 0, 0)), (1308, (.iconst 0, 1, 0, 0, 0, 0, 0)), (1309, (.iaload, 1, 0, 0, 0, 0, 0)), (1310, (.invokevirtual 102, 3, 71, 6178, 1, 347, 0))],
  [(1313, (.iconst (-1), 1, 0, 0, 0, (-1), 0)), (1314, (.if_icmp .ne 218, 3, 1532, 0, 0, 0, 0)), (1317, (.aload_n 1, 1, 1, 0, 0, 0, 0)), (1318, (.aload 6, 2, 6, 0, 0, 0, 0)), (1320, (.iconst 1, 1, 0, 0, 0, 1, 0)), (1321, (.iaload, 1, 0, 0, 0, 0, 0)), (1322, (.iconst 0, 1, 0, 0, 0, 0, 0)), (1323, (.invokevirtual 105, 3, 72, 6195, 1, 356, 0)), (1326, (.iconst (-1), 1, 0, 0, 0, (-1), 0)), (1327, (.if_icmp .ne 205, 3, 1532, 0, 0, 0, 0)), (1330, (.aload_n 1, 1, 1, 0, 0, 0, 0)), (1331, (.iconst 0, 1, 0, 0, 0, 0, 0)), (1332, (.iconst 5, 1, 0, 0, 0, 5, 0)), (1333, (.invokevirtual 105, 3, 72, 6195, 1, 356, 0)), (1336, (.iconst (-1), 1, 0, 0, 0, (-1), 0)), (1337, (.if_icmp .ne 195, 3, 1532, 0, 0, 0, 0)), (1340, (.aload_n 1, 1, 1, 0, 0, 0, 0)), (1341, (.aload 6, 2, 6, 0, 0, 0, 0)), (1343, (.iconst 2, 1, 0, 0, 0, 2, 0))],
  [(1344, (.iaload, 1, 0, 0, 0, 0, 0)), (1345, (.invokevirtual 169, 3, 73, 6178, 1, 600, 0)), (1348, (.iconst (-1), 1, 0, 0, 0, (-1), 0)), (1349, (.if_icmp .ne 183, 3, 1532, 0, 0, 0, 0)), (1352, (.aload_n 1, 1, 1, 0, 0, 0, 0)), (1353, (.aload 6, 2, 6, 0, 0, 0, 0)), (1355, (.iconst 3, 1, 0, 0, 0, 3, 0)), (1356, (.iaload, 1, 0, 0, 0, 0, 0)), (1357, (.iconst 0, 1, 0, 0, 0, 0, 0)), (1358, (.invokevirtual 108, 3, 74, 6195, 1, 375, 0)), (1361, (.iconst (-1), 1, 0, 0, 0, (-1), 0)), (1362, (.if_icmp .ne 170, 3, 1532, 0, 0, 0, 0)), (1365, (.aload_n 1, 1, 1, 0, 0, 0, 0)), (1366, (.iconst 0, 1, 0, 0, 0, 0, 0)), (1367, (.bipush 6, 2, 0, 0, 0, 6, 0)), (1369, (.invokevirtual 108, 3, 74, 6195, 1, 375, 0)), (1372, (.iconst (-1), 1, 0, 0, 0, (-1), 0)), (1373, (.if_icmp .ne 159, 3, 1532, 0, 0, 0, 0))],
  [(1376, (.aload_n 1, 1, 1, 0, 0, 0, 0)), (1377, (.aload 6, 2, 6, 0, 0, 0, 0)), (1379, (.iconst 2, 1, 0, 0, 0, 2, 0)), (1380, (.iaload, 1, 0, 0, 0, 0, 0)), (1381, (.iconst 0, 1, 0, 0, 0, 0, 0)), (1382, (.iconst 1, 1, 0, 0, 0, 1, 0)), (1383, (.invokevirtual 114, 3, 75, 6212, 1, 463, 0)), (1386, (.iconst (-1), 1, 0, 0, 0, (-1), 0)), (1387, (.if_icmp .ne 145, 3, 1532, 0, 0, 0, 0)), (1390, (.aload_n 1, 1, 1, 0, 0, 0, 0)), (1391, (.iconst 0, 1, 0, 0, 0, 0, 0)), (1392, (.aload 6, 2, 6, 0, 0, 0, 0)), (1394, (.iconst 0, 1, 0, 0, 0, 0, 0)), (1395, (.iaload, 1, 0, 0, 0, 0, 0)), (1396, (.invokevirtual 111, 3, 76, 6195, 1, 389, 0)), (1399, (.iconst (-1), 1, 0, 0, 0, (-1), 0)), (1400, (.if_icmp .ne 132, 3, 1532, 0, 0, 0, 0)), (1403, (.aload_n 1, 1, 1, 0, 0, 0, 0)), (1404, (.iconst 0, 1, 0, 0, 0, 0, 0)), (1405, (.iconst 3, 1, 0, 0, 0, 3, 0)), (1406, (.invokevirtual 137, 3, 79, 6195, 1, 522, 0))],
  [(1409, (.iconst (-1), 1, 0, 0, 0, (-1), 0)), (1410, (.if_icmp .ne 122, 3, 1532, 0, 0, 0, 0)), (1413, (.aload_n 1, 1, 1, 0, 0, 0, 0)), (1414, (.aload 6, 2, 6, 0, 0, 0, 0)), (1416, (.iconst 3, 1, 0, 0, 0, 3, 0)), (1417, (.iaload, 1, 0, 0, 0, 0, 0)), (1418, (.iconst 0, 1, 0, 0, 0, 0, 0)), (1419, (.invokevirtual 144, 3, 80, 6195, 1, 529, 0)), (1422, (.iconst (-1), 1, 0, 0, 0, (-1), 0)), (1423, (.if_icmp .ne 109, 3, 1532, 0, 0, 0, 0)), (1426, (.aload_n 1, 1, 1, 0, 0, 0, 0)), (1427, (.iconst 0, 1, 0, 0, 0, 0, 0)), (1428, (.aload 6, 2, 6, 0, 0, 0, 0)), (1430, (.iconst 2, 1, 0, 0, 0, 2, 0)), (1431, (.iaload, 1, 0, 0, 0, 0, 0)), (1432, (.invokevirtual 153, 3, 81, 6195, 1, 551, 0)), (1435, (.iconst (-1), 1, 0, 0, 0, (-1), 0)), (1436, (.if_icmp .ne 96, 3, 1532, 0, 0, 0, 0)), (1439, (.aload_n 1, 1, 1, 0, 0, 0, 0))],
  [(1440, (.iconst (-1), 1, 0, 0, 0, (-1), 0)), (1441, (.iconst 0, 1, 0, 0, 0, 0, 0)), (1442, (.invokevirtual 150, 3, 82, 6195, 1, 539, 0)), (1445, (.iconst (-1), 1, 0, 0, 0, (-1), 0)), (1446, (.if_icmp .ne 86, 3, 1532, 0, 0, 0, 0)), (1449, (.aload_n 1, 1, 1, 0, 0, 0, 0)), (1450, (.aload 6, 2, 6, 0, 0, 0, 0)), (1452, (.iconst 3, 1, 0, 0, 0, 3, 0)), (1453, (.iaload, 1, 0, 0, 0, 0, 0)), (1454, (.invokevirtual 156, 3, 83, 6178, 1, 556, 0)), (1457, (.iconst (-1), 1, 0, 0, 0, (-1), 0)), (1458, (.if_icmp .ne 74, 3, 1532, 0, 0, 0, 0)), (1461, (.aload_n 1, 1, 1, 0, 0, 0, 0)), (1462, (.iconst 0, 1, 0, 0, 0, 0, 0)), (1463, (.iconst (-1), 1, 0, 0, 0, (-1), 0)), (1464, (.invokevirtual 147, 3, 84, 6195, 1, 534, 0)), (1467, (.iconst (-1), 1, 0, 0, 0, (-1), 0)), (1468, (.if_icmp .ne 64, 3, 1532, 0, 0, 0, 0)), (1471, (.aload_n 1, 1, 1, 0, 0, 0, 0))],
  [(1472, (.iconst 1, 1, 0, 0, 0, 1, 0)), (1473, (.aload 6, 2, 6, 0, 0, 0, 0)), (1475, (.iconst 3, 1, 0, 0, 0, 3, 0)), (1476, (.iaload, 1, 0, 0, 0, 0, 0)), (1477, (.ishl, 1, 0, 0, 0, 0, 0)), (1478, (.invokevirtual 166, 3, 85, 6210, 1, 588, 0)), (1481, (.iconst (-1), 1, 0, 0, 0, (-1), 0)), (1482, (.if_icmp .ne 50, 3, 1532, 0, 0, 0, 0)), (1485, (.aload_n 1, 1, 1, 0, 0, 0, 0)), (1486, (.iconst 0, 1, 0, 0, 0, 0, 0)), (1487, (.iconst 2, 1, 0, 0, 0, 2, 0)), (1488, (.invokevirtual 163, 3, 96, 6211, 1, 571, 0)), (1491, (.iconst (-1), 1, 0, 0, 0, (-1), 0)), (1492, (.if_icmp .ne 40, 3, 1532, 0, 0, 0, 0)), (1495, (.aload_n 1, 1, 1, 0, 0, 0, 0)), (1496, (.iconst 0, 1, 0, 0, 0, 0, 0)), (1497, (.iconst 0, 1, 0, 0, 0, 0, 0)), (1498, (.aload 6, 2, 6, 0, 0, 0, 0)), (1500, (.iconst 0, 1, 0, 0, 0, 0, 0)), (1501, (.iaload, 1, 0, 0, 0, 0, 0)), (1502, (.invokevirtual 159, 3, 91, 6212, 1, 561, 0))],
  [(1505, (.iconst (-1), 1, 0, 0, 0, (-1), 0)), (1506, (.if_icmp .ne 26, 3, 1532, 0, 0, 0, 0)), (1509, (.aload_n 1, 1, 1, 0, 0, 0, 0)), (1510, (.iconst 2, 1, 0, 0, 0, 2, 0)), (1511, (.invokevirtual 121, 3, 102, 6194, 1, 472, 0)), (1514, (.iconst (-1), 1, 0, 0, 0, (-1), 0)), (1515, (.if_icmp .ne 17, 3, 1532, 0, 0, 0, 0)), (1518, (.aload_n 1, 1, 1, 0, 0, 0, 0)), (1519, (.iconst 0, 1, 0, 0, 0, 0, 0)), (1520, (.invokevirtual 124, 3, 103, 6178, 1, 484, 0)), (1523, (.bipush (-2), 2, 0, 0, 0, (-2), 0)), (1525, (.if_icmp .ne 7, 3, 1532, 0, 0, 0, 0)), (1528, (.iconst 1, 1, 0, 0, 0, 1, 0)), (1529, (.goto 4, 3, 1533, 0, 0, 0, 0)), (1532, (.iconst 0, 1, 0, 0, 0, 0, 0)), (1533, (.ireturn, 1, 0, 0, 1, 0, 0))]]
def tbs_ : List (List (List (Nat × E_))) := [tX0_blank, [], tX0_witness, tX0_frighten, tX0_look, tX0_holdOrTurn, tX0_choices, tX0_thoughtOf, tX0_isSame, tX0_isSameForAll, tX0_chanceOfSame, tX0_answerOf, [], tX1_empty, tX1_become, [], [], [], [], [], tX3_put, tX3_readInto, tX3_blame, tX3_byteAt, tX3_tokenAt, tX3_nextToken, tX3_isNamed, tX3_readLine, tX3_sortNamed, tX3_readThing, tX3_readMeaning, tX3_readWord, tX3_readKind, tX3_withNamed, tX3_takeLetters, tX3_takeNumber, tX4_empty, tX4_addThing, tX4_addMeaning, tX4_addSound, tX4_addKind, tX4_settle, tX4_settleMeanings, tX4_hasThing, tX4_hasMeaning, tX4_hasSound, tX4_hasKind, tX4_areKinds, [], tX4_allMeanings, tX4_allKinds, tX4_plainest, tX4_fitting, tX4_targetThings, tX4_likeTarget, tX4_isTarget, tX4_kindsThatCan, [], tX4_chances, [], [], [], [], [], [], [], [], tX6_feed, tX6_end, tX6_text, [], tX6_thing, tX6_meaning, tX6_word, tX6_kind, tX6_show, tX6_teach, tX6_undo, tX6_clear, tX6_shown, tX6_thinks, tX6_fits, tX6_same, tX6_fled, tX6_against, tX6_common, [], [], [], [], [], tX6_answer, [], [], [], [], tX6_likely, [], [], [], [], [], tX6_keep, tX6_back, [], [], [], [], tX6_count, tX6_isIn, tX6_ofLowestTerms, tX6_takeShowing, tX6_thinkAgain, [], [], [], [], [], [], [], tX6_imagesKept, tL_cell, tL_low, tL_put, tL_word, tL_ended, tL_number, tL_ones, tL_letters, tL_told, tL_fresh, tL_plainest, tL_learns, tL_fitting, tL_isSame, tL_all, [], [], [], [], [], [], [], [], [], [], [], [], [], [], [], [], [], [], [], [], [], [], [], [], [], [], [], [], [], [], [], [], [], [], [], [], [], [], [], [], [], [], [], [], [], [], [], [], [], [], [], [], [], [], [], [], [], [], [], [], [], [], [], [], [], [], [], [], [], [], [], [], [], [], [], [], [], [], [], [], [], tJ6_bitCount_0f7a4, tL_law]
def cts_ : List (List (Nat × List Bool)) := [[(7, [true, true, true]), (36, [true, true, true]), (66, [true, true, true])],
  [],
  [(65, [true, true, true, true, true, true, false, true, true])],
  [(12, [true, true, true])],
  [(196, [true, false, true, false, false, false, true, true, true, true]), (221, [true, false, true, false, false, false, true, true, true, true])],
  [(16, [true, true, true, true]), (37, [true, true, true, false, true]), (52, [true, true, true])],
  [(18, [true, true, true, true, true, true])],
  [],
  [],
  [(3, [true, true, true, true, true])],
  [(5, [true, true, true, true, true])],
  [],
  [],
  [],
  [(71, [true, true, true]), (97, [true, true, true])],
  [],
  [],
  [],
  [],
  [],
  [],
  [(30, [true, true, true]), (72, [true, true])],
  [],
  [],
  [(30, [false, false, true]), (44, [false, false, true])],
  [(0, [true]), (37, [true]), (74, [true]), (101, [true]), (129, [true]), (166, [true])],
  [(28, [true, true, true])],
  [(76, [true]), (96, [true])],
  [],
  [],
  [(53, [false, true, true, true])],
  [],
  [(35, [true, true, false, true, true, true]), (81, [true, false, false, false, false, false, true])],
  [],
  [(39, [true, true, true, true]), (83, [true]), (103, [true, false, true])],
  [(31, [true, true, true, true])],
  [],
  [],
  [],
  [],
  [],
  [(2, [true, true]), (25, [true, true]), (42, [true, true, true]), (126, [true, true]), (143, [true, true, true])],
  [(2, [true, true]), (19, [true, true, true]), (70, [true, true, true]), (78, [true, true, true, true])],
  [],
  [],
  [],
  [],
  [],
  [],
  [],
  [],
  [(2, [true, true, true])],
  [],
  [],
  [],
  [],
  [(4, [true, true, true, true])],
  [],
  [(4, [true, true, true, true])],
  [],
  [],
  [],
  [],
  [],
  [],
  [],
  [],
  [(19, [true, true, false, true])],
  [],
  [(55, [true, false, false, true])],
  [],
  [],
  [],
  [],
  [],
  [],
  [],
  [],
  [],
  [],
  [],
  [],
  [],
  [],
  [],
  [(17, [true, true, true, true])],
  [],
  [],
  [],
  [],
  [],
  [],
  [],
  [],
  [],
  [],
  [],
  [],
  [],
  [],
  [],
  [],
  [(28, [true, true])],
  [],
  [],
  [],
  [],
  [],
  [],
  [],
  [(8, [true, true, true, true, true, true]), (39, [true, true, true, true])],
  [],
  [(13, [true, true])],
  [],
  [],
  [],
  [],
  [],
  [],
  [],
  [(4, [true, true, true])],
  [],
  [],
  [],
  [(4, [true, true, true, false, true])],
  [(5, [true, true, true])],
  [(18, [true, true, true]), (34, [true, true, false, true, true]), (51, [true, true, false, true, true])],
  [(4, [true, true, true])],
  [(20, [true, true, true, true])],
  [(5, [true, true, true, true, true, true, true, true, true]), (91, [true, true, true, true, true, true, true, true, true, false, false, true, true]), (159, [true, true, true, true, true, true, true, true, true, false, false, true, true]), (265, [true, true, true, true, true, true, true, true, true, false, false, true, true]), (279, [true, true, true, true, true, true, true, true, true, false, false, true, true, false, true]), (327, [true, true, true, true, true, true, true, true, true, false, false, true, true, false, true]), (418, [true, true, true, true, true, true, true, true, true, false, false, true, true]), (435, [true, true, true, false, true, true, true, true, true, false, false, true, true]), (507, [true, true, true, false, true, false, true, true, true, false, false, true, true]), (579, [true, true, true, false, true, false, true, true, true, false, false, true, true, true, true]), (614, [true, true, true, false, true, false, true, true, true, false, false, true, true, true, true]), (636, [true, true, true, false, true, false, true, true, true, false, false, true, true, true, true]), (665, [true, true, true, false, true, false, true, true, true, false, false, true, true, false, true, true]), (778, [true, true, true, false, true, false, true, true, true, false, false, true, true, false, true]), (823, [true, true, true, false, true, false, true, true, true, false, false, true, true, false, true]), (855, [true, true, true, false, true, false, true, true, true, false, false, true, true, false, true]), (890, [true, true, true, false, true, false, true, true, true, false, false, true, true])],
  [(2, [true, true])],
  [(10, [true, true, true, true, true, true])],
  [(35, [true, false, false, false, false, true, false, false, false, false, true, true]), (94, [true, true, true, true, true, false, true, true, true, false, true, true, true]), (225, [true, true, true, true, true, false, true, true, true, false, true, true, true, true]), (243, [true, true, true, true, true, false, true, true, true, false, true, true, true, true, true, true]), (301, [true, true, true, false, true, false, true, true, true, false, true, false, true, true]), (350, [true, false, false, false, false, false, true, false, false, false, true, false, true, true]), (382, [true, false, false, false, false, false, true, false, false, false, true, false, false, true])],
  [(12, [true, true, true, true, true, true, true]), (21, [true, true, true, true, true, true, true, true])],
  [],
  [(7, [true, true, true, true, true, true, true]), (35, [true, true, true, true, true, true, true, true, true])],
  [],
  [],
  [],
  [],
  [],
  [],
  [],
  [],
  [],
  [],
  [],
  [],
  [],
  [],
  [],
  [],
  [],
  [],
  [],
  [],
  [],
  [],
  [],
  [],
  [],
  [],
  [],
  [],
  [],
  [],
  [],
  [],
  [],
  [],
  [],
  [],
  [],
  [],
  [],
  [],
  [],
  [],
  [],
  [],
  [],
  [],
  [],
  [],
  [],
  [],
  [],
  [],
  [],
  [],
  [],
  [],
  [],
  [],
  [],
  [],
  [],
  [],
  [],
  [],
  [],
  [],
  [],
  [],
  [],
  [],
  [],
  [],
  [],
  [],
  [],
  [],
  [],
  [],
  [],
  [],
  [],
  [],
  [(48, [true, true, true, true, true, true, true]), (56, [true, true, true, true, true, true, true, true]), (89, [true, true, true, true, true, true, true, true]), (104, [true, true, true, true, true, true, true, true, true, true]), (248, [true, true, true, true, true, true, true, true]), (260, [true, true, true, true, true, true, true, true, true]), (303, [true, true, true, true, true, true, true]), (321, [true, true, false, true, true, true, true, true, true, true]), (330, [true, true, false, true, true, true, true, true, true, true, true, true, true]), (429, [true, true, false, true, true, true, true, true, true, true, true, true, true, true, true, true, true]), (499, [true, true, false, true, true, true, true, true, true, true, true, true, true, true, false, true]), (502, [true, true, false, true, true, true, true, true, true, true, true, true, true, true, false, true]), (512, [true, true, false, true, true, true, true, true, true, true, true, true, true, true, false, true, true]), (537, [true, true, false, true, true, true, true, true, true, true, true, true, true, true, false, true]), (582, [true, true, false, true, true, true, true, true, true, true, true, false, true, true, false, true]), (594, [true, true, false, true, true, true, true, true, true, true, true, true, true, true, false, true, false, true]), (644, [true, true, false, true, true, true, true, true, true, true, true, true, true, true, false, true]), (652, [true, true, false, true, true, true, true, true, true, true, true, true, true, true, false, true, false, true]), (680, [true, true, false, true, true, true, true, true, true, true, true, true, true, true, false, true]), (721, [true, true, false, true, true, true, true, true, true, true, true, true, true, true, false, true]), (813, [true, true, false, true, true, true, true, true, true, true, true, true, true, true, false, true]), (848, [true, true, false, true, true, true, true, true, true, true, true, true, true, false, false, true, false, true, true, true]), (883, [true, true, false, true, true, true, true, true, true, true, true, true, true, false, false, true, false, true, true, true, true, true, true, true, true]), (931, [true, true, false, true, true, true, true, true, true, true, true, true, true, false, false, true, false, true, true, true, true, false, true, true, true, true]), (954, [true, true, false, true, true, true, true, true, true, true, true, true, true, false, false, true, false, true, true, true, true, true, false, true, true, true]), (1008, [true, true, false, true, true, true, true, true, true, true, true, true, true, false, false, true, false, true, true, true, true, true, true, true, true, true, true]), (1065, [true, true, false, true, true, true, true, true, true, true, true, true, true, false, false, true, false, true, true, true, true, true, true, true, true, false, true, true]), (1191, [true, true, false, true, true, true, true, true, true, true, true, true, true, false, false, true, false, true, false, true, false, false, true, true]), (1264, [true, true, false, true, true, true, true, true, true, true, true, true, true, false, false, true, false, true, true, true, false, false, true, true, true, true])]]
def sws_ : List (List (Int32 × Nat) × Nat) := [([(1, 84), (2, 119), (3, 158)], 187),
  ([(0, 48), (1, 58), (2, 68), (3, 78), (4, 88)], 97),
  ([(0, 52), (1, 62), (2, 72), (3, 82), (4, 100), (5, 110)], 120),
  ([(0, 52), (1, 62), (2, 72)], 90),
  ([(0, 52), (1, 60), (2, 68), (3, 76), (4, 84), (5, 92), (6, 100), (7, 105), (8, 113)], 123)]
def swT_ : Nat → List (Int32 × Nat) × Nat := fun i => sws_.getD i ([], 0)
noncomputable def ex : Nat → Nat → Go_ := ex_ swT_ tbs_ cts_
theorem ex_un (d mi n pc : Nat) (lv : Lv_) (st : List V_) (O : Mem_) : ex (d + 1) mi pc lv st O = un_ swT_ (cl_ (ex d)) (tbs_.getD mi []) (cts_.getD mi []) (ex (d + 1) mi) n pc lv st O := ex_un_ d mi n pc lv st O
end
section
/-! A THING OR NONE, a truth, as the program's numbers. -/
def oI : Option Nat → Int32
  | none => -4
  | some m => nI m
def bI (b : Bool) : Int32 := nI b.toNat
end
section
-- ===== PART A: goes FIRST, ahead of the names: the tables' words, and 'selects' of the private methods out of them =====
/-- a private method of a class that the tables say can be made, by its rows of tables_1 -/
def lw_okq (q : MethodName × Nat) : Prop := (q.1.cls ≠ "java/lang/invoke/MethodHandle" ∧ q.1.cls ≠ "java/lang/invoke/VarHandle") ∧ Cond.instantiable q.1.cls q.2 ∈ tables_1 ∧ Cond.privateMethod q.1 ∈ tables_1 ∧ Cond.instanceMethod q.1 ∈ tables_1
theorem lw_p0 : lw_okq (⟨"FirstWords", "takeShowing", "(IIZ)V"⟩, 10) := ⟨⟨by decide +kernel, by decide +kernel⟩, List.mem_of_getElem? (i := 15) (by decide +kernel), List.mem_of_getElem? (i := 355) (by decide +kernel), List.mem_of_getElem? (i := 356) (by decide +kernel)⟩
theorem lw_p1 : lw_okq (⟨"FirstWords$Minds", "frighten", "(I)V"⟩, 6) := ⟨⟨by decide +kernel, by decide +kernel⟩, List.mem_of_getElem? (i := 200) (by decide +kernel), List.mem_of_getElem? (i := 379) (by decide +kernel), List.mem_of_getElem? (i := 380) (by decide +kernel)⟩
theorem lw_p2 : lw_okq (⟨"FirstWords$Minds", "look", "(LFirstWords$Told;IIIZ)Z"⟩, 6) := ⟨⟨by decide +kernel, by decide +kernel⟩, List.mem_of_getElem? (i := 200) (by decide +kernel), List.mem_of_getElem? (i := 383) (by decide +kernel), List.mem_of_getElem? (i := 384) (by decide +kernel)⟩
theorem lw_p3 : lw_okq (⟨"FirstWords$Minds", "holdOrTurn", "(IIZ)V"⟩, 6) := ⟨⟨by decide +kernel, by decide +kernel⟩, List.mem_of_getElem? (i := 200) (by decide +kernel), List.mem_of_getElem? (i := 399) (by decide +kernel), List.mem_of_getElem? (i := 400) (by decide +kernel)⟩
theorem lw_p4 : lw_okq (⟨"FirstWords", "thinkAgain", "()V"⟩, 10) := ⟨⟨by decide +kernel, by decide +kernel⟩, List.mem_of_getElem? (i := 15) (by decide +kernel), List.mem_of_getElem? (i := 422) (by decide +kernel), List.mem_of_getElem? (i := 423) (by decide +kernel)⟩
theorem lw_p5 : lw_okq (⟨"FirstWords", "imagesKept", "()I"⟩, 10) := ⟨⟨by decide +kernel, by decide +kernel⟩, List.mem_of_getElem? (i := 15) (by decide +kernel), List.mem_of_getElem? (i := 524) (by decide +kernel), List.mem_of_getElem? (i := 525) (by decide +kernel)⟩
theorem lw_p6 : lw_okq (⟨"FirstWords$Tape", "nextToken", "()V"⟩, 9) := ⟨⟨by decide +kernel, by decide +kernel⟩, List.mem_of_getElem? (i := 23) (by decide +kernel), List.mem_of_getElem? (i := 595) (by decide +kernel), List.mem_of_getElem? (i := 596) (by decide +kernel)⟩
theorem lw_p7 : lw_okq (⟨"FirstWords$Tape", "byteAt", "(I)I"⟩, 9) := ⟨⟨by decide +kernel, by decide +kernel⟩, List.mem_of_getElem? (i := 23) (by decide +kernel), List.mem_of_getElem? (i := 599) (by decide +kernel), List.mem_of_getElem? (i := 600) (by decide +kernel)⟩
theorem lw_p8 : lw_okq (⟨"FirstWords$Tape", "tokenAt", "(I)I"⟩, 9) := ⟨⟨by decide +kernel, by decide +kernel⟩, List.mem_of_getElem? (i := 23) (by decide +kernel), List.mem_of_getElem? (i := 603) (by decide +kernel), List.mem_of_getElem? (i := 604) (by decide +kernel)⟩
theorem lw_p9 : lw_okq (⟨"FirstWords$Tape", "blame", "(I)V"⟩, 9) := ⟨⟨by decide +kernel, by decide +kernel⟩, List.mem_of_getElem? (i := 23) (by decide +kernel), List.mem_of_getElem? (i := 607) (by decide +kernel), List.mem_of_getElem? (i := 608) (by decide +kernel)⟩
theorem lw_p10 : lw_okq (⟨"FirstWords$Tape", "readLine", "(LFirstWords$Told;)V"⟩, 9) := ⟨⟨by decide +kernel, by decide +kernel⟩, List.mem_of_getElem? (i := 23) (by decide +kernel), List.mem_of_getElem? (i := 611) (by decide +kernel), List.mem_of_getElem? (i := 612) (by decide +kernel)⟩
theorem lw_p11 : lw_okq (⟨"FirstWords$Tape", "sortNamed", "()I"⟩, 9) := ⟨⟨by decide +kernel, by decide +kernel⟩, List.mem_of_getElem? (i := 23) (by decide +kernel), List.mem_of_getElem? (i := 615) (by decide +kernel), List.mem_of_getElem? (i := 616) (by decide +kernel)⟩
theorem lw_p12 : lw_okq (⟨"FirstWords$Tape", "isNamed", "(Ljava/lang/String;)Z"⟩, 9) := ⟨⟨by decide +kernel, by decide +kernel⟩, List.mem_of_getElem? (i := 23) (by decide +kernel), List.mem_of_getElem? (i := 620) (by decide +kernel), List.mem_of_getElem? (i := 621) (by decide +kernel)⟩
theorem lw_p13 : lw_okq (⟨"FirstWords$Tape", "readThing", "(LFirstWords$Told;)V"⟩, 9) := ⟨⟨by decide +kernel, by decide +kernel⟩, List.mem_of_getElem? (i := 23) (by decide +kernel), List.mem_of_getElem? (i := 676) (by decide +kernel), List.mem_of_getElem? (i := 677) (by decide +kernel)⟩
theorem lw_p14 : lw_okq (⟨"FirstWords$Tape", "takeLetters", "(I)I"⟩, 9) := ⟨⟨by decide +kernel, by decide +kernel⟩, List.mem_of_getElem? (i := 23) (by decide +kernel), List.mem_of_getElem? (i := 680) (by decide +kernel), List.mem_of_getElem? (i := 681) (by decide +kernel)⟩
theorem lw_p15 : lw_okq (⟨"FirstWords$Tape", "readMeaning", "(LFirstWords$Told;)V"⟩, 9) := ⟨⟨by decide +kernel, by decide +kernel⟩, List.mem_of_getElem? (i := 23) (by decide +kernel), List.mem_of_getElem? (i := 690) (by decide +kernel), List.mem_of_getElem? (i := 691) (by decide +kernel)⟩
def lw_privs_1 : List (MethodName × Nat) := [(⟨"FirstWords", "takeShowing", "(IIZ)V"⟩, 10), (⟨"FirstWords$Minds", "frighten", "(I)V"⟩, 6), (⟨"FirstWords$Minds", "look", "(LFirstWords$Told;IIIZ)Z"⟩, 6), (⟨"FirstWords$Minds", "holdOrTurn", "(IIZ)V"⟩, 6), (⟨"FirstWords", "thinkAgain", "()V"⟩, 10), (⟨"FirstWords", "imagesKept", "()I"⟩, 10), (⟨"FirstWords$Tape", "nextToken", "()V"⟩, 9), (⟨"FirstWords$Tape", "byteAt", "(I)I"⟩, 9), (⟨"FirstWords$Tape", "tokenAt", "(I)I"⟩, 9), (⟨"FirstWords$Tape", "blame", "(I)V"⟩, 9), (⟨"FirstWords$Tape", "readLine", "(LFirstWords$Told;)V"⟩, 9), (⟨"FirstWords$Tape", "sortNamed", "()I"⟩, 9), (⟨"FirstWords$Tape", "isNamed", "(Ljava/lang/String;)Z"⟩, 9), (⟨"FirstWords$Tape", "readThing", "(LFirstWords$Told;)V"⟩, 9), (⟨"FirstWords$Tape", "takeLetters", "(I)I"⟩, 9), (⟨"FirstWords$Tape", "readMeaning", "(LFirstWords$Told;)V"⟩, 9)]
theorem lw_r1 : ∀ q ∈ lw_privs_1, lw_okq q := List.forall_mem_cons.mpr ⟨lw_p0, List.forall_mem_cons.mpr ⟨lw_p1, List.forall_mem_cons.mpr ⟨lw_p2, List.forall_mem_cons.mpr ⟨lw_p3, List.forall_mem_cons.mpr ⟨lw_p4, List.forall_mem_cons.mpr ⟨lw_p5, List.forall_mem_cons.mpr ⟨lw_p6, List.forall_mem_cons.mpr ⟨lw_p7, List.forall_mem_cons.mpr ⟨lw_p8, List.forall_mem_cons.mpr ⟨lw_p9, List.forall_mem_cons.mpr ⟨lw_p10, List.forall_mem_cons.mpr ⟨lw_p11, List.forall_mem_cons.mpr ⟨lw_p12, List.forall_mem_cons.mpr ⟨lw_p13, List.forall_mem_cons.mpr ⟨lw_p14, List.forall_mem_cons.mpr ⟨lw_p15, fun _ h => absurd h List.not_mem_nil⟩⟩⟩⟩⟩⟩⟩⟩⟩⟩⟩⟩⟩⟩⟩⟩
theorem lw_p16 : lw_okq (⟨"FirstWords$Tape", "readWord", "(LFirstWords$Told;)V"⟩, 9) := ⟨⟨by decide +kernel, by decide +kernel⟩, List.mem_of_getElem? (i := 23) (by decide +kernel), List.mem_of_getElem? (i := 706) (by decide +kernel), List.mem_of_getElem? (i := 707) (by decide +kernel)⟩
theorem lw_p17 : lw_okq (⟨"FirstWords$Tape", "takeNumber", "(I)I"⟩, 9) := ⟨⟨by decide +kernel, by decide +kernel⟩, List.mem_of_getElem? (i := 23) (by decide +kernel), List.mem_of_getElem? (i := 710) (by decide +kernel), List.mem_of_getElem? (i := 711) (by decide +kernel)⟩
theorem lw_p18 : lw_okq (⟨"FirstWords$Tape", "readKind", "(LFirstWords$Told;I)V"⟩, 9) := ⟨⟨by decide +kernel, by decide +kernel⟩, List.mem_of_getElem? (i := 23) (by decide +kernel), List.mem_of_getElem? (i := 718) (by decide +kernel), List.mem_of_getElem? (i := 719) (by decide +kernel)⟩
theorem lw_p19 : lw_okq (⟨"FirstWords$Tape", "withNamed", "()I"⟩, 9) := ⟨⟨by decide +kernel, by decide +kernel⟩, List.mem_of_getElem? (i := 23) (by decide +kernel), List.mem_of_getElem? (i := 726) (by decide +kernel), List.mem_of_getElem? (i := 727) (by decide +kernel)⟩
theorem lw_p20 : lw_okq (⟨"FirstWords$Told", "settleMeanings", "()V"⟩, 19) := ⟨⟨by decide +kernel, by decide +kernel⟩, List.mem_of_getElem? (i := 61) (by decide +kernel), List.mem_of_getElem? (i := 738) (by decide +kernel), List.mem_of_getElem? (i := 739) (by decide +kernel)⟩
def lw_privs_2 : List (MethodName × Nat) := [(⟨"FirstWords$Tape", "readWord", "(LFirstWords$Told;)V"⟩, 9), (⟨"FirstWords$Tape", "takeNumber", "(I)I"⟩, 9), (⟨"FirstWords$Tape", "readKind", "(LFirstWords$Told;I)V"⟩, 9), (⟨"FirstWords$Tape", "withNamed", "()I"⟩, 9), (⟨"FirstWords$Told", "settleMeanings", "()V"⟩, 19)]
theorem lw_r2 : ∀ q ∈ lw_privs_2, lw_okq q := List.forall_mem_cons.mpr ⟨lw_p16, List.forall_mem_cons.mpr ⟨lw_p17, List.forall_mem_cons.mpr ⟨lw_p18, List.forall_mem_cons.mpr ⟨lw_p19, List.forall_mem_cons.mpr ⟨lw_p20, fun _ h => absurd h List.not_mem_nil⟩⟩⟩⟩⟩
def lw_privs : List (MethodName × Nat) := lw_privs_1 ++ (lw_privs_2)
def lw_tbl : List Cond := k2_sels lw_privs ++ tables_1
theorem lw_privs_ok : ∀ q ∈ lw_privs, lw_okq q := by
  show ∀ q ∈ lw_privs_1 ++ (lw_privs_2), lw_okq q
  exact List.forall_mem_append.mpr ⟨lw_r1, lw_r2⟩

/-! ===== BEGIN words of one list among another's, by their places ===== -/
theorem goodIn_r {big : List Cond} (ws : List Cond) (ps : List Nat) (hp : ws = ps.filterMap (fun i => big[i]?)) (h : ws.all goodWord = true) : GoodIn big ws := by
  intro w hw
  have h1 := List.all_eq_true.mp h w hw
  rw [hp] at hw
  obtain ⟨i, -, hi⟩ := List.mem_filterMap.mp hw
  have hm : w ∈ big := by first | exact List.mem_of_getElem? hi | exact List.getElem?_mem hi
  exact ⟨hm, good_of_word h1⟩
theorem goodIn_app {big a b : List Cond} (ha : GoodIn big a) (hb : GoodIn big b) : GoodIn big (a ++ b) := fun w h => (List.mem_append.mp h).elim (ha w) (hb w)
theorem goodIn_ca {big a b : List Cond} {c : Cond} (ha : GoodIn big (c :: a)) (hb : GoodIn big b) : GoodIn big (c :: (a ++ b)) := fun w h => (List.mem_cons.mp h).elim (fun e => ha w (List.mem_cons.mpr (Or.inl e))) (fun h => (List.mem_append.mp h).elim (fun h => ha w (List.mem_cons.mpr (Or.inr h))) (hb w))
theorem goodIn_sub {big ws : List Cond} (hm : ∀ w ∈ ws, w ∈ big) (h : ws.all goodWord = true) : GoodIn big ws := fun w hw => ⟨hm w hw, good_of_word (List.all_eq_true.mp h w hw)⟩
/-! ===== END ===== -/

/-! ===== BEGIN printed: names, fields, word lists, decode rows ===== -/
def RX0 : String := "FirstWords$Minds"
def TX0 : u_T := fun k => match k with
  | 0 => ("FirstWords$Minds", "seen", "I", false)
  | 1 => ("FirstWords$Minds", "thought", "[I", true)
  | 2 => ("FirstWords$Minds", "wrong", "[I", true)
  | 3 => ("FirstWords$Minds", "latest", "[I", true)
  | 4 => ("FirstWords$Minds", "fledAt", "[I", true)
  | _ => ("FirstWords$Minds", "fit", "[I", true)
def tyX0 : Nat → FieldType := fun k => match k with
  | 0 => .int
  | 1 => .array .int
  | 2 => .array .int
  | 3 => .array .int
  | 4 => .array .int
  | _ => .array .int
abbrev wsX00 : List Cond := u_ws RX0 TX0 6
theorem nmX0 : ∀ a, a < 6 → ∀ b, b < 6 → a ≠ b → (TX0 a).2.1 ≠ (TX0 b).2.1 := by decide +kernel
theorem tyX0_ok : ∀ k, k < 6 → parseFieldDescriptor (TX0 k).2.2.1 = some (tyX0 k) := by decide +kernel
abbrev cX0_init : ByteArray := prog_2_method_1_code
def yX0_init : MethodName := ⟨RX0, "<init>", "()V"⟩
abbrev cX0_blank : ByteArray := prog_2_method_2_code
def yX0_blank : MethodName := ⟨RX0, "blank", "(LFirstWords$Told;)V"⟩
abbrev cX0_witness : ByteArray := prog_2_method_4_code
def yX0_witness : MethodName := ⟨RX0, "witness", "(LFirstWords$Told;IIIZ)Z"⟩
abbrev cX0_frighten : ByteArray := prog_2_method_5_code
def yX0_frighten : MethodName := ⟨RX0, "frighten", "(I)V"⟩
abbrev cX0_look : ByteArray := prog_2_method_6_code
def yX0_look : MethodName := ⟨RX0, "look", "(LFirstWords$Told;IIIZ)Z"⟩
abbrev cX0_holdOrTurn : ByteArray := prog_2_method_7_code
def yX0_holdOrTurn : MethodName := ⟨RX0, "holdOrTurn", "(IIZ)V"⟩
abbrev cX0_choices : ByteArray := prog_2_method_8_code
def yX0_choices : MethodName := ⟨RX0, "choices", "(LFirstWords$Told;II)I"⟩
abbrev cX0_thoughtOf : ByteArray := prog_2_method_9_code
def yX0_thoughtOf : MethodName := ⟨RX0, "thoughtOf", "(II)I"⟩
abbrev cX0_isSame : ByteArray := prog_2_method_10_code
def yX0_isSame : MethodName := ⟨RX0, "isSame", "(LFirstWords$Told;II)Z"⟩
abbrev cX0_isSameForAll : ByteArray := prog_2_method_11_code
def yX0_isSameForAll : MethodName := ⟨RX0, "isSameForAll", "(LFirstWords$Told;II)Z"⟩
abbrev cX0_chanceOfSame : ByteArray := prog_2_method_12_code
def yX0_chanceOfSame : MethodName := ⟨RX0, "chanceOfSame", "(LFirstWords$Told;I)I"⟩
abbrev cX0_answerOf : ByteArray := prog_2_method_13_code
def yX0_answerOf : MethodName := ⟨RX0, "answerOf", "(LFirstWords$Told;III)I"⟩
def RX1 : String := "FirstWords$Scene"
def TX1 : u_T := fun k => match k with
  | 0 => ("FirstWords$Scene", "showings", "I", false)
  | 1 => ("FirstWords$Scene", "sound", "[I", true)
  | 2 => ("FirstWords$Scene", "thing", "[I", true)
  | 3 => ("FirstWords$Scene", "so", "[Z", true)
  | 4 => ("FirstWords$Scene", "left", "I", false)
  | 5 => ("FirstWords$Scene", "theirs", "I", false)
  | 6 => ("FirstWords$Scene", "theirThing", "[I", true)
  | 7 => ("FirstWords$Scene", "theirSo", "[Z", true)
  | _ => ("FirstWords$Scene", "isKept", "Z", false)
def tyX1 : Nat → FieldType := fun k => match k with
  | 0 => .int
  | 1 => .array .int
  | 2 => .array .int
  | 3 => .array .boolean
  | 4 => .int
  | 5 => .int
  | 6 => .array .int
  | 7 => .array .boolean
  | _ => .boolean
abbrev wsX10 : List Cond := u_ws RX1 TX1 9
theorem nmX1 : ∀ a, a < 9 → ∀ b, b < 9 → a ≠ b → (TX1 a).2.1 ≠ (TX1 b).2.1 := by decide +kernel
theorem tyX1_ok : ∀ k, k < 9 → parseFieldDescriptor (TX1 k).2.2.1 = some (tyX1 k) := by decide +kernel
abbrev cX1_init : ByteArray := prog_3_method_1_code
def yX1_init : MethodName := ⟨RX1, "<init>", "()V"⟩
abbrev cX1_empty : ByteArray := prog_3_method_2_code
def yX1_empty : MethodName := ⟨RX1, "empty", "(LFirstWords$Told;)V"⟩
abbrev cX1_become : ByteArray := prog_3_method_3_code
def yX1_become : MethodName := ⟨RX1, "become", "(LFirstWords$Scene;)V"⟩
def RX2 : String := "FirstWords$Sheets"
def TX2 : u_T := fun k => match k with
  | 0 => ("FirstWords$Sheets", "size", "[I", true)
  | 1 => ("FirstWords$Sheets", "laneOf", "[I", true)
  | _ => ("FirstWords$Sheets", "cells", "[[I", true)
def tyX2 : Nat → FieldType := fun k => match k with
  | 0 => .array .int
  | 1 => .array .int
  | _ => .array (.array .int)
abbrev wsX20 : List Cond := u_ws RX2 TX2 3
theorem nmX2 : ∀ a, a < 3 → ∀ b, b < 3 → a ≠ b → (TX2 a).2.1 ≠ (TX2 b).2.1 := by decide +kernel
theorem tyX2_ok : ∀ k, k < 3 → parseFieldDescriptor (TX2 k).2.2.1 = some (tyX2 k) := by decide +kernel
abbrev cX2_init : ByteArray := prog_4_method_1_code
def yX2_init : MethodName := ⟨RX2, "<init>", "()V"⟩
def RX3 : String := "FirstWords$Tape"
def TX3 : u_T := fun k => match k with
  | 0 => ("FirstWords$Tape", "bytes", "[I", true)
  | 1 => ("FirstWords$Tape", "length", "I", false)
  | 2 => ("FirstWords$Tape", "fault", "I", false)
  | 3 => ("FirstWords$Tape", "place", "I", false)
  | 4 => ("FirstWords$Tape", "lines", "I", false)
  | 5 => ("FirstWords$Tape", "at", "I", false)
  | 6 => ("FirstWords$Tape", "token", "I", false)
  | 7 => ("FirstWords$Tape", "start", "I", false)
  | _ => ("FirstWords$Tape", "stop", "I", false)
def tyX3 : Nat → FieldType := fun k => match k with
  | 0 => .array .int
  | 1 => .int
  | 2 => .int
  | 3 => .int
  | 4 => .int
  | 5 => .int
  | 6 => .int
  | 7 => .int
  | _ => .int
abbrev wsX30 : List Cond := u_ws RX3 TX3 9
theorem nmX3 : ∀ a, a < 9 → ∀ b, b < 9 → a ≠ b → (TX3 a).2.1 ≠ (TX3 b).2.1 := by decide +kernel
theorem tyX3_ok : ∀ k, k < 9 → parseFieldDescriptor (TX3 k).2.2.1 = some (tyX3 k) := by decide +kernel
abbrev cX3_init : ByteArray := prog_5_method_1_code
def yX3_init : MethodName := ⟨RX3, "<init>", "()V"⟩
abbrev cX3_put : ByteArray := prog_5_method_2_code
def yX3_put : MethodName := ⟨RX3, "put", "(I)V"⟩
abbrev cX3_readInto : ByteArray := prog_5_method_3_code
def yX3_readInto : MethodName := ⟨RX3, "readInto", "(LFirstWords$Told;)Z"⟩
abbrev cX3_blame : ByteArray := prog_5_method_4_code
def yX3_blame : MethodName := ⟨RX3, "blame", "(I)V"⟩
abbrev cX3_byteAt : ByteArray := prog_5_method_5_code
def yX3_byteAt : MethodName := ⟨RX3, "byteAt", "(I)I"⟩
abbrev cX3_tokenAt : ByteArray := prog_5_method_6_code
def yX3_tokenAt : MethodName := ⟨RX3, "tokenAt", "(I)I"⟩
abbrev cX3_nextToken : ByteArray := prog_5_method_7_code
def yX3_nextToken : MethodName := ⟨RX3, "nextToken", "()V"⟩
abbrev cX3_isNamed : ByteArray := prog_5_method_8_code
def yX3_isNamed : MethodName := ⟨RX3, "isNamed", "(Ljava/lang/String;)Z"⟩
abbrev cX3_readLine : ByteArray := prog_5_method_9_code
def yX3_readLine : MethodName := ⟨RX3, "readLine", "(LFirstWords$Told;)V"⟩
abbrev cX3_sortNamed : ByteArray := prog_5_method_10_code
def yX3_sortNamed : MethodName := ⟨RX3, "sortNamed", "()I"⟩
abbrev cX3_readThing : ByteArray := prog_5_method_11_code
def yX3_readThing : MethodName := ⟨RX3, "readThing", "(LFirstWords$Told;)V"⟩
abbrev cX3_readMeaning : ByteArray := prog_5_method_12_code
def yX3_readMeaning : MethodName := ⟨RX3, "readMeaning", "(LFirstWords$Told;)V"⟩
abbrev cX3_readWord : ByteArray := prog_5_method_13_code
def yX3_readWord : MethodName := ⟨RX3, "readWord", "(LFirstWords$Told;)V"⟩
abbrev cX3_readKind : ByteArray := prog_5_method_14_code
def yX3_readKind : MethodName := ⟨RX3, "readKind", "(LFirstWords$Told;I)V"⟩
abbrev cX3_withNamed : ByteArray := prog_5_method_15_code
def yX3_withNamed : MethodName := ⟨RX3, "withNamed", "()I"⟩
abbrev cX3_takeLetters : ByteArray := prog_5_method_16_code
def yX3_takeLetters : MethodName := ⟨RX3, "takeLetters", "(I)I"⟩
abbrev cX3_takeNumber : ByteArray := prog_5_method_17_code
def yX3_takeNumber : MethodName := ⟨RX3, "takeNumber", "(I)I"⟩
def RX4 : String := "FirstWords$Told"
def TX4 : u_T := fun k => match k with
  | 0 => ("FirstWords$Told", "things", "I", false)
  | 1 => ("FirstWords$Told", "meanings", "I", false)
  | 2 => ("FirstWords$Told", "sounds", "I", false)
  | 3 => ("FirstWords$Told", "kinds", "I", false)
  | 4 => ("FirstWords$Told", "marks", "[I", true)
  | 5 => ("FirstWords$Told", "isIt", "[I", true)
  | 6 => ("FirstWords$Told", "has", "[I", true)
  | 7 => ("FirstWords$Told", "hasNot", "[I", true)
  | 8 => ("FirstWords$Told", "asks", "[I", true)
  | 9 => ("FirstWords$Told", "are", "[I", true)
  | 10 => ("FirstWords$Told", "alike", "[I", true)
  | 11 => ("FirstWords$Told", "fromPlainest", "[I", true)
  | 12 => ("FirstWords$Told", "target", "[I", true)
  | 13 => ("FirstWords$Told", "sort", "[I", true)
  | 14 => ("FirstWords$Told", "sees", "[I", true)
  | 15 => ("FirstWords$Told", "fears", "[I", true)
  | 16 => ("FirstWords$Told", "unlike", "[Z", true)
  | 17 => ("FirstWords$Told", "chance", "[I", true)
  | _ => ("FirstWords$Told", "can", "[I", true)
def tyX4 : Nat → FieldType := fun k => match k with
  | 0 => .int
  | 1 => .int
  | 2 => .int
  | 3 => .int
  | 4 => .array .int
  | 5 => .array .int
  | 6 => .array .int
  | 7 => .array .int
  | 8 => .array .int
  | 9 => .array .int
  | 10 => .array .int
  | 11 => .array .int
  | 12 => .array .int
  | 13 => .array .int
  | 14 => .array .int
  | 15 => .array .int
  | 16 => .array .boolean
  | 17 => .array .int
  | _ => .array .int
abbrev wsX40 : List Cond := u_ws RX4 TX4 19
theorem nmX4 : ∀ a, a < 19 → ∀ b, b < 19 → a ≠ b → (TX4 a).2.1 ≠ (TX4 b).2.1 := by decide +kernel
theorem tyX4_ok : ∀ k, k < 19 → parseFieldDescriptor (TX4 k).2.2.1 = some (tyX4 k) := by decide +kernel
abbrev cX4_init : ByteArray := prog_6_method_1_code
def yX4_init : MethodName := ⟨RX4, "<init>", "()V"⟩
abbrev cX4_empty : ByteArray := prog_6_method_2_code
def yX4_empty : MethodName := ⟨RX4, "empty", "()V"⟩
abbrev cX4_addThing : ByteArray := prog_6_method_3_code
def yX4_addThing : MethodName := ⟨RX4, "addThing", "(I)V"⟩
abbrev cX4_addMeaning : ByteArray := prog_6_method_4_code
def yX4_addMeaning : MethodName := ⟨RX4, "addMeaning", "(II)V"⟩
abbrev cX4_addSound : ByteArray := prog_6_method_5_code
def yX4_addSound : MethodName := ⟨RX4, "addSound", "(I)V"⟩
abbrev cX4_addKind : ByteArray := prog_6_method_6_code
def yX4_addKind : MethodName := ⟨RX4, "addKind", "(I)V"⟩
abbrev cX4_settle : ByteArray := prog_6_method_7_code
def yX4_settle : MethodName := ⟨RX4, "settle", "()V"⟩
abbrev cX4_settleMeanings : ByteArray := prog_6_method_8_code
def yX4_settleMeanings : MethodName := ⟨RX4, "settleMeanings", "()V"⟩
abbrev cX4_hasThing : ByteArray := prog_6_method_9_code
def yX4_hasThing : MethodName := ⟨RX4, "hasThing", "(I)Z"⟩
abbrev cX4_hasMeaning : ByteArray := prog_6_method_10_code
def yX4_hasMeaning : MethodName := ⟨RX4, "hasMeaning", "(I)Z"⟩
abbrev cX4_hasSound : ByteArray := prog_6_method_11_code
def yX4_hasSound : MethodName := ⟨RX4, "hasSound", "(I)Z"⟩
abbrev cX4_hasKind : ByteArray := prog_6_method_12_code
def yX4_hasKind : MethodName := ⟨RX4, "hasKind", "(I)Z"⟩
abbrev cX4_areKinds : ByteArray := prog_6_method_13_code
def yX4_areKinds : MethodName := ⟨RX4, "areKinds", "(I)Z"⟩
abbrev cX4_allMeanings : ByteArray := prog_6_method_15_code
def yX4_allMeanings : MethodName := ⟨RX4, "allMeanings", "()I"⟩
abbrev cX4_allKinds : ByteArray := prog_6_method_16_code
def yX4_allKinds : MethodName := ⟨RX4, "allKinds", "()I"⟩
abbrev cX4_plainest : ByteArray := prog_6_method_17_code
def yX4_plainest : MethodName := ⟨RX4, "plainest", "(I)I"⟩
abbrev cX4_fitting : ByteArray := prog_6_method_18_code
def yX4_fitting : MethodName := ⟨RX4, "fitting", "(IZ)I"⟩
abbrev cX4_targetThings : ByteArray := prog_6_method_19_code
def yX4_targetThings : MethodName := ⟨RX4, "targetThings", "(I)I"⟩
abbrev cX4_likeTarget : ByteArray := prog_6_method_20_code
def yX4_likeTarget : MethodName := ⟨RX4, "likeTarget", "(I)I"⟩
abbrev cX4_isTarget : ByteArray := prog_6_method_21_code
def yX4_isTarget : MethodName := ⟨RX4, "isTarget", "(II)Z"⟩
abbrev cX4_kindsThatCan : ByteArray := prog_6_method_22_code
def yX4_kindsThatCan : MethodName := ⟨RX4, "kindsThatCan", "(I)I"⟩
abbrev cX4_chances : ByteArray := prog_6_method_24_code
def yX4_chances : MethodName := ⟨RX4, "chances", "(I)I"⟩
def RX5 : String := "FirstWords$Tutor"
def TX5 : u_T := fun k => match k with
  | 0 => ("FirstWords$Tutor", "row", "[I", true)
  | 1 => ("FirstWords$Tutor", "length", "I", false)
  | 2 => ("FirstWords$Tutor", "bestOrder", "[I", true)
  | 3 => ("FirstWords$Tutor", "bestTotal", "I", false)
  | 4 => ("FirstWords$Tutor", "tried", "[I", true)
  | 5 => ("FirstWords$Tutor", "alongRow", "[LFirstWords$Minds;", true)
  | 6 => ("FirstWords$Tutor", "alongOrder", "[LFirstWords$Minds;", true)
  | 7 => ("FirstWords$Tutor", "kinds", "I", false)
  | 8 => ("FirstWords$Tutor", "sound", "I", false)
  | _ => ("FirstWords$Tutor", "worth", "I", false)
def tyX5 : Nat → FieldType := fun k => match k with
  | 0 => .array .int
  | 1 => .int
  | 2 => .array .int
  | 3 => .int
  | 4 => .array .int
  | 5 => .array (.object "FirstWords$Minds")
  | 6 => .array (.object "FirstWords$Minds")
  | 7 => .int
  | 8 => .int
  | _ => .int
abbrev wsX50 : List Cond := u_ws RX5 TX5 10
theorem nmX5 : ∀ a, a < 10 → ∀ b, b < 10 → a ≠ b → (TX5 a).2.1 ≠ (TX5 b).2.1 := by decide +kernel
theorem tyX5_ok : ∀ k, k < 10 → parseFieldDescriptor (TX5 k).2.2.1 = some (tyX5 k) := by decide +kernel
abbrev cX5_init : ByteArray := prog_7_method_1_code
def yX5_init : MethodName := ⟨RX5, "<init>", "()V"⟩
def RX6 : String := "FirstWords"
def TX6 : u_T := fun k => match k with
  | 0 => ("FirstWords", "tape", "LFirstWords$Tape;", true)
  | 1 => ("FirstWords", "told", "LFirstWords$Told;", false)
  | 2 => ("FirstWords", "draft", "LFirstWords$Told;", false)
  | 3 => ("FirstWords", "now", "LFirstWords$Scene;", true)
  | 4 => ("FirstWords", "images", "[LFirstWords$Scene;", true)
  | 5 => ("FirstWords", "minds", "LFirstWords$Minds;", true)
  | 6 => ("FirstWords", "trial", "LFirstWords$Minds;", true)
  | 7 => ("FirstWords", "tutor", "LFirstWords$Tutor;", true)
  | 8 => ("FirstWords", "sheets", "LFirstWords$Sheets;", true)
  | _ => ("FirstWords", "tornBy", "I", false)
def tyX6 : Nat → FieldType := fun k => match k with
  | 0 => .object "FirstWords$Tape"
  | 1 => .object "FirstWords$Told"
  | 2 => .object "FirstWords$Told"
  | 3 => .object "FirstWords$Scene"
  | 4 => .array (.object "FirstWords$Scene")
  | 5 => .object "FirstWords$Minds"
  | 6 => .object "FirstWords$Minds"
  | 7 => .object "FirstWords$Tutor"
  | 8 => .object "FirstWords$Sheets"
  | _ => .int
abbrev wsX60 : List Cond := u_ws RX6 TX6 10
theorem nmX6 : ∀ a, a < 10 → ∀ b, b < 10 → a ≠ b → (TX6 a).2.1 ≠ (TX6 b).2.1 := by decide +kernel
theorem tyX6_ok : ∀ k, k < 10 → parseFieldDescriptor (TX6 k).2.2.1 = some (tyX6 k) := by decide +kernel
abbrev cX6_init : ByteArray := prog_1_method_1_code
def yX6_init : MethodName := ⟨RX6, "<init>", "()V"⟩
abbrev cX6_feed : ByteArray := prog_1_method_2_code
def yX6_feed : MethodName := ⟨RX6, "feed", "(J)I"⟩
abbrev cX6_end : ByteArray := prog_1_method_3_code
def yX6_end : MethodName := ⟨RX6, "end", "(I)I"⟩
abbrev cX6_text : ByteArray := prog_1_method_4_code
def yX6_text : MethodName := ⟨RX6, "text", "()I"⟩
abbrev cX6_thing : ByteArray := prog_1_method_6_code
def yX6_thing : MethodName := ⟨RX6, "thing", "(I)I"⟩
abbrev cX6_meaning : ByteArray := prog_1_method_7_code
def yX6_meaning : MethodName := ⟨RX6, "meaning", "(II)I"⟩
abbrev cX6_word : ByteArray := prog_1_method_8_code
def yX6_word : MethodName := ⟨RX6, "word", "(I)I"⟩
abbrev cX6_kind : ByteArray := prog_1_method_9_code
def yX6_kind : MethodName := ⟨RX6, "kind", "(II)I"⟩
abbrev cX6_show : ByteArray := prog_1_method_10_code
def yX6_show : MethodName := ⟨RX6, "show", "(IIZ)I"⟩
abbrev cX6_teach : ByteArray := prog_1_method_11_code
def yX6_teach : MethodName := ⟨RX6, "teach", "(II)I"⟩
abbrev cX6_undo : ByteArray := prog_1_method_12_code
def yX6_undo : MethodName := ⟨RX6, "undo", "()I"⟩
abbrev cX6_clear : ByteArray := prog_1_method_13_code
def yX6_clear : MethodName := ⟨RX6, "clear", "()I"⟩
abbrev cX6_shown : ByteArray := prog_1_method_14_code
def yX6_shown : MethodName := ⟨RX6, "shown", "(II)I"⟩
abbrev cX6_thinks : ByteArray := prog_1_method_15_code
def yX6_thinks : MethodName := ⟨RX6, "thinks", "(II)I"⟩
abbrev cX6_fits : ByteArray := prog_1_method_16_code
def yX6_fits : MethodName := ⟨RX6, "fits", "(II)I"⟩
abbrev cX6_same : ByteArray := prog_1_method_17_code
def yX6_same : MethodName := ⟨RX6, "same", "(II)I"⟩
abbrev cX6_fled : ByteArray := prog_1_method_18_code
def yX6_fled : MethodName := ⟨RX6, "fled", "(I)I"⟩
abbrev cX6_against : ByteArray := prog_1_method_19_code
def yX6_against : MethodName := ⟨RX6, "against", "(II)I"⟩
abbrev cX6_common : ByteArray := prog_1_method_20_code
def yX6_common : MethodName := ⟨RX6, "common", "(I)I"⟩
abbrev cX6_answer : ByteArray := prog_1_method_26_code
def yX6_answer : MethodName := ⟨RX6, "answer", "(III)I"⟩
abbrev cX6_likely : ByteArray := prog_1_method_31_code
def yX6_likely : MethodName := ⟨RX6, "likely", "(II)I"⟩
abbrev cX6_keep : ByteArray := prog_1_method_37_code
def yX6_keep : MethodName := ⟨RX6, "keep", "(I)I"⟩
abbrev cX6_back : ByteArray := prog_1_method_38_code
def yX6_back : MethodName := ⟨RX6, "back", "(I)I"⟩
abbrev cX6_count : ByteArray := prog_1_method_43_code
def yX6_count : MethodName := ⟨RX6, "count", "(I)I"⟩
abbrev cX6_isIn : ByteArray := prog_1_method_44_code
def yX6_isIn : MethodName := ⟨RX6, "isIn", "(II)Z"⟩
abbrev cX6_ofLowestTerms : ByteArray := prog_1_method_45_code
def yX6_ofLowestTerms : MethodName := ⟨RX6, "ofLowestTerms", "(IIZ)I"⟩
abbrev cX6_takeShowing : ByteArray := prog_1_method_46_code
def yX6_takeShowing : MethodName := ⟨RX6, "takeShowing", "(IIZ)V"⟩
abbrev cX6_thinkAgain : ByteArray := prog_1_method_47_code
def yX6_thinkAgain : MethodName := ⟨RX6, "thinkAgain", "()V"⟩
abbrev cX6_imagesKept : ByteArray := prog_1_method_55_code
def yX6_imagesKept : MethodName := ⟨RX6, "imagesKept", "()I"⟩
def RX7 : String := "FirstWordsModel"
def TX7 : u_T := fun k => match k with
  | _ => ("", "", "", false)
def tyX7 : Nat → FieldType := fun k => match k with
  | _ => .int
abbrev wsX70 : List Cond := u_ws RX7 TX7 0
theorem nmX7 : ∀ a, a < 0 → ∀ b, b < 0 → a ≠ b → (TX7 a).2.1 ≠ (TX7 b).2.1 := by decide +kernel
theorem tyX7_ok : ∀ k, k < 0 → parseFieldDescriptor (TX7 k).2.2.1 = some (tyX7 k) := by decide +kernel
def RJ6 : String := "java/lang/Integer"
def TJ6 : u_T := fun k => match k with
  | _ => ("", "", "", false)
def tyJ6 : Nat → FieldType := fun k => match k with
  | _ => .int
abbrev wsJ60 : List Cond := u_ws RJ6 TJ6 0
theorem nmJ6 : ∀ a, a < 0 → ∀ b, b < 0 → a ≠ b → (TJ6 a).2.1 ≠ (TJ6 b).2.1 := by decide +kernel
theorem tyJ6_ok : ∀ k, k < 0 → parseFieldDescriptor (TJ6 k).2.2.1 = some (tyJ6 k) := by decide +kernel
abbrev cJ6_bitCount_0f7a4 : ByteArray := prog_10_method_49_code
def yJ6_bitCount_0f7a4 : MethodName := ⟨RJ6, "bitCount", "(I)I"⟩
def RJ0 : String := "java/lang/String"
def TJ0 : u_T := fun k => match k with
  | _ => ("", "", "", false)
def tyJ0 : Nat → FieldType := fun k => match k with
  | _ => .int
abbrev wsJ00 : List Cond := u_ws RJ0 TJ0 0
theorem nmJ0 : ∀ a, a < 0 → ∀ b, b < 0 → a ≠ b → (TJ0 a).2.1 ≠ (TJ0 b).2.1 := by decide +kernel
theorem tyJ0_ok : ∀ k, k < 0 → parseFieldDescriptor (TJ0 k).2.2.1 = some (tyJ0 k) := by decide +kernel
abbrev cJ0_length_8abf5 : ByteArray := prog_11_method_54_code
def yJ0_length_8abf5 : MethodName := ⟨RJ0, "length", "()I"⟩
abbrev cJ0_charAt_5068e : ByteArray := prog_11_method_56_code
def yJ0_charAt_5068e : MethodName := ⟨RJ0, "charAt", "(I)C"⟩
abbrev cJ0_coder_7d493 : ByteArray := prog_11_method_152_code
def yJ0_coder_7d493 : MethodName := ⟨RJ0, "coder", "()B"⟩
abbrev cJ0_isLatin1_aae02 : ByteArray := prog_11_method_154_code
def yJ0_isLatin1_aae02 : MethodName := ⟨RJ0, "isLatin1", "()Z"⟩
abbrev cJ0_checkIndex_df160 : ByteArray := prog_11_method_155_code
def yJ0_checkIndex_df160 : MethodName := ⟨RJ0, "checkIndex", "(II)V"⟩
def RJ1 : String := "java/lang/StringLatin1"
def TJ1 : u_T := fun k => match k with
  | _ => ("", "", "", false)
def tyJ1 : Nat → FieldType := fun k => match k with
  | _ => .int
abbrev wsJ10 : List Cond := u_ws RJ1 TJ1 0
theorem nmJ1 : ∀ a, a < 0 → ∀ b, b < 0 → a ≠ b → (TJ1 a).2.1 ≠ (TJ1 b).2.1 := by decide +kernel
theorem tyJ1_ok : ∀ k, k < 0 → parseFieldDescriptor (TJ1 k).2.2.1 = some (tyJ1 k) := by decide +kernel
abbrev cJ1_charAt_3b067 : ByteArray := prog_12_method_2_code
def yJ1_charAt_3b067 : MethodName := ⟨RJ1, "charAt", "([BI)C"⟩
def RJ2 : String := "java/lang/StringUTF16"
def TJ2 : u_T := fun k => match k with
  | _ => ("", "", "", false)
def tyJ2 : Nat → FieldType := fun k => match k with
  | _ => .int
abbrev wsJ20 : List Cond := u_ws RJ2 TJ2 0
theorem nmJ2 : ∀ a, a < 0 → ∀ b, b < 0 → a ≠ b → (TJ2 a).2.1 ≠ (TJ2 b).2.1 := by decide +kernel
theorem tyJ2_ok : ∀ k, k < 0 → parseFieldDescriptor (TJ2 k).2.2.1 = some (tyJ2 k) := by decide +kernel
abbrev cJ2_getChar_3b067 : ByteArray := prog_13_method_5_code
def yJ2_getChar_3b067 : MethodName := ⟨RJ2, "getChar", "([BI)C"⟩
abbrev cJ2_length_9d52b : ByteArray := prog_13_method_6_code
def yJ2_length_9d52b : MethodName := ⟨RJ2, "length", "([B)I"⟩
abbrev cJ2_charAt_3b067 : ByteArray := prog_13_method_83_code
def yJ2_charAt_3b067 : MethodName := ⟨RJ2, "charAt", "([BI)C"⟩
abbrev cJ2_checkIndex_2214a : ByteArray := prog_13_method_91_code
def yJ2_checkIndex_2214a : MethodName := ⟨RJ2, "checkIndex", "(I[B)V"⟩
def RJ10 : String := "java/lang/System"
def TJ10 : u_T := fun k => match k with
  | _ => ("", "", "", false)
def tyJ10 : Nat → FieldType := fun k => match k with
  | _ => .int
abbrev wsJ100 : List Cond := u_ws RJ10 TJ10 0
theorem nmJ10 : ∀ a, a < 0 → ∀ b, b < 0 → a ≠ b → (TJ10 a).2.1 ≠ (TJ10 b).2.1 := by decide +kernel
theorem tyJ10_ok : ∀ k, k < 0 → parseFieldDescriptor (TJ10 k).2.2.1 = some (tyJ10 k) := by decide +kernel
def RJ3 : String := "jdk/internal/util/Preconditions"
def TJ3 : u_T := fun k => match k with
  | _ => ("", "", "", false)
def tyJ3 : Nat → FieldType := fun k => match k with
  | _ => .int
abbrev wsJ30 : List Cond := u_ws RJ3 TJ3 0
theorem nmJ3 : ∀ a, a < 0 → ∀ b, b < 0 → a ≠ b → (TJ3 a).2.1 ≠ (TJ3 b).2.1 := by decide +kernel
theorem tyJ3_ok : ∀ k, k < 0 → parseFieldDescriptor (TJ3 k).2.2.1 = some (tyJ3 k) := by decide +kernel
abbrev cJ3_checkIndex_8e157 : ByteArray := prog_15_method_11_code
def yJ3_checkIndex_8e157 : MethodName := ⟨RJ3, "checkIndex", "(IILjava/util/function/BiFunction;)I"⟩
def RLw : String := "FirstWordsLaw"
abbrev cL_cell : ByteArray := method_2_code
def yL_cell : MethodName := ⟨RLw, "cell", "([II)I"⟩
abbrev cL_low : ByteArray := method_3_code
def yL_low : MethodName := ⟨RLw, "low", "(II)I"⟩
abbrev cL_put : ByteArray := method_4_code
def yL_put : MethodName := ⟨RLw, "put", "(LFirstWords;[JI)V"⟩
abbrev cL_word : ByteArray := method_5_code
def yL_word : MethodName := ⟨RLw, "word", "(LFirstWords;[JJ)V"⟩
abbrev cL_ended : ByteArray := method_6_code
def yL_ended : MethodName := ⟨RLw, "ended", "(LFirstWords;[J)Z"⟩
abbrev cL_number : ByteArray := method_7_code
def yL_number : MethodName := ⟨RLw, "number", "(LFirstWords;[JI)V"⟩
abbrev cL_ones : ByteArray := method_8_code
def yL_ones : MethodName := ⟨RLw, "ones", "(I)I"⟩
abbrev cL_letters : ByteArray := method_9_code
def yL_letters : MethodName := ⟨RLw, "letters", "(LFirstWords;[JI)V"⟩
abbrev cL_told : ByteArray := method_10_code
def yL_told : MethodName := ⟨RLw, "told", "(LFirstWords;[II[I[I[I[I[I)Z"⟩
abbrev cL_fresh : ByteArray := method_11_code
def yL_fresh : MethodName := ⟨RLw, "fresh", "([I)V"⟩
abbrev cL_plainest : ByteArray := method_12_code
def yL_plainest : MethodName := ⟨RLw, "plainest", "([I[II)I"⟩
abbrev cL_learns : ByteArray := method_13_code
def yL_learns : MethodName := ⟨RLw, "learns", "([I[I[I[IIIIIII)V"⟩
abbrev cL_fitting : ByteArray := method_14_code
def yL_fitting : MethodName := ⟨RLw, "fitting", "([II[I[II)I"⟩
abbrev cL_isSame : ByteArray := method_15_code
def yL_isSame : MethodName := ⟨RLw, "isSame", "([I[I[III)Z"⟩
abbrev cL_all : ByteArray := method_16_code
def yL_all : MethodName := ⟨RLw, "all", "([I[II[I[I[I)V"⟩
abbrev cL_law : ByteArray := code
def yL_law : MethodName := ⟨RLw, "law", "([I)Z"⟩
def wsL_law_r1 : List Cond := [Cond.classLink RLw 13 RX6, Cond.instantiable RX6 10, Cond.initialized RX6, Cond.arrayClass .int, Cond.methodLink RLw 97 yX6_init, Cond.instanceMethod yX6_init, Cond.code yX6_init cX6_init 2 none, Cond.methodLink RX6 1 objectInit, Cond.instanceMethod objectInit, Cond.code objectInit ⟨#[0xb1]⟩ 1 none, Cond.classLink RX6 7 RX3, Cond.instantiable RX3 9, Cond.initialized RX3, Cond.fieldLink RX6 10 "FirstWords" "tape" "LFirstWords$Tape;", Cond.classLink RX6 16 RX4, Cond.instantiable RX4 19, Cond.initialized RX4, Cond.fieldLink RX6 19 "FirstWords" "told" "LFirstWords$Told;", Cond.fieldLink RX6 23 "FirstWords" "draft" "LFirstWords$Told;", Cond.classLink RX6 26 RX1, Cond.instantiable RX1 9, Cond.initialized RX1, Cond.fieldLink RX6 29 "FirstWords" "now" "LFirstWords$Scene;", Cond.fieldLink RX6 33 "FirstWords" "images" "[LFirstWords$Scene;"]
def wsL_law_r2 : List Cond := [Cond.classLink RX6 37 RX0, Cond.instantiable RX0 6, Cond.initialized RX0, Cond.fieldLink RX6 40 "FirstWords" "minds" "LFirstWords$Minds;", Cond.fieldLink RX6 44 "FirstWords" "trial" "LFirstWords$Minds;", Cond.classLink RX6 47 RX5, Cond.instantiable RX5 10, Cond.initialized RX5, Cond.fieldLink RX6 50 "FirstWords" "tutor" "LFirstWords$Tutor;", Cond.classLink RX6 54 RX2, Cond.instantiable RX2 3, Cond.initialized RX2, Cond.fieldLink RX6 57 "FirstWords" "sheets" "LFirstWords$Sheets;", Cond.methodLink RX6 9 yX3_init, Cond.instanceMethod yX3_init, Cond.code yX3_init cX3_init 1 none, Cond.methodLink RX3 3 objectInit, Cond.fieldLink RX3 9 "FirstWords$Tape" "bytes" "[I", Cond.methodLink RX6 18 yX4_init, Cond.instanceMethod yX4_init, Cond.code yX4_init cX4_init 1 none, Cond.methodLink RX4 3 objectInit, Cond.fieldLink RX4 9 "FirstWords$Told" "marks" "[I", Cond.fieldLink RX4 15 "FirstWords$Told" "isIt" "[I"]
def wsL_law_r3 : List Cond := [Cond.fieldLink RX4 18 "FirstWords$Told" "has" "[I", Cond.fieldLink RX4 21 "FirstWords$Told" "hasNot" "[I", Cond.fieldLink RX4 24 "FirstWords$Told" "asks" "[I", Cond.fieldLink RX4 27 "FirstWords$Told" "are" "[I", Cond.fieldLink RX4 30 "FirstWords$Told" "alike" "[I", Cond.fieldLink RX4 33 "FirstWords$Told" "fromPlainest" "[I", Cond.fieldLink RX4 36 "FirstWords$Told" "target" "[I", Cond.fieldLink RX4 39 "FirstWords$Told" "sort" "[I", Cond.fieldLink RX4 42 "FirstWords$Told" "sees" "[I", Cond.fieldLink RX4 45 "FirstWords$Told" "fears" "[I", Cond.arrayClass .boolean, Cond.fieldLink RX4 48 "FirstWords$Told" "unlike" "[Z", Cond.fieldLink RX4 52 "FirstWords$Told" "chance" "[I", Cond.fieldLink RX4 55 "FirstWords$Told" "can" "[I", Cond.methodLink RX6 28 yX1_init, Cond.instanceMethod yX1_init, Cond.code yX1_init cX1_init 1 none, Cond.methodLink RX1 3 objectInit, Cond.fieldLink RX1 9 "FirstWords$Scene" "sound" "[I", Cond.fieldLink RX1 15 "FirstWords$Scene" "thing" "[I", Cond.fieldLink RX1 18 "FirstWords$Scene" "so" "[Z", Cond.fieldLink RX1 22 "FirstWords$Scene" "theirThing" "[I", Cond.fieldLink RX1 25 "FirstWords$Scene" "theirSo" "[Z", Cond.methodLink RX6 39 yX0_init]
def wsL_law_r4 : List Cond := [Cond.instanceMethod yX0_init, Cond.code yX0_init cX0_init 1 none, Cond.methodLink RX0 3 objectInit, Cond.fieldLink RX0 9 "FirstWords$Minds" "thought" "[I", Cond.fieldLink RX0 15 "FirstWords$Minds" "wrong" "[I", Cond.fieldLink RX0 18 "FirstWords$Minds" "latest" "[I", Cond.fieldLink RX0 21 "FirstWords$Minds" "fledAt" "[I", Cond.fieldLink RX0 24 "FirstWords$Minds" "fit" "[I", Cond.methodLink RX6 49 yX5_init, Cond.instanceMethod yX5_init, Cond.code yX5_init cX5_init 2 none, Cond.methodLink RX5 3 objectInit, Cond.fieldLink RX5 9 "FirstWords$Tutor" "row" "[I", Cond.fieldLink RX5 15 "FirstWords$Tutor" "bestOrder" "[I", Cond.fieldLink RX5 18 "FirstWords$Tutor" "tried" "[I", Cond.classLink RX5 21 RX0, Cond.fieldLink RX5 23 "FirstWords$Tutor" "alongRow" "[LFirstWords$Minds;", Cond.fieldLink RX5 27 "FirstWords$Tutor" "alongOrder" "[LFirstWords$Minds;", Cond.methodLink RX5 30 yX0_init, Cond.methodLink RX6 56 yX2_init, Cond.instanceMethod yX2_init, Cond.code yX2_init cX2_init 2 none, Cond.methodLink RX2 3 objectInit, Cond.fieldLink RX2 9 "FirstWords$Sheets" "size" "[I"]
def wsL_law_r5 : List Cond := [Cond.fieldLink RX2 15 "FirstWords$Sheets" "laneOf" "[I", Cond.classLink RX2 18 "[[I", Cond.fieldLink RX2 20 "FirstWords$Sheets" "cells" "[[I", Cond.methodLink RLw 98 yL_told, Cond.static yL_told, Cond.initialized RLw, Cond.code yL_told cL_told 16 (some .boolean), Cond.arrayClass .long, Cond.constantLong RLw 36 (499967946343), Cond.constantLong RLw 45 (469852319347), Cond.constantLong RLw 47 (544108404), Cond.constantLong RLw 49 (2003792484), Cond.constantLong RLw 54 (482854660462), Cond.constantLong RLw 56 (1818325876), Cond.constantLong RLw 58 (27973166649734508), Cond.constantLong RLw 60 (482956244324), Cond.constantLong RLw 62 (9116499217113957), Cond.constantLong RLw 64 (9136316380441445), Cond.constantLong RLw 66 (35624159638131), Cond.constantLong RLw 68 (139374978419), Cond.methodLink RLw 28 yL_cell, Cond.static yL_cell, Cond.code yL_cell cL_cell 2 (some .int), Cond.constant RLw 7 (15485863)]
def wsL_law_r6 : List Cond := [Cond.constant RLw 8 (32452843), Cond.methodLink RLw 32 yL_low, Cond.static yL_low, Cond.code yL_low cL_low 2 (some .int), Cond.constant RLw 9 (2147483647), Cond.methodLink RLw 38 yL_word, Cond.static yL_word, Cond.code yL_word cL_word 6 none, Cond.methodLink RLw 18 yL_put, Cond.static yL_put, Cond.code yL_put cL_put 3 none, Cond.constantLong RLw 10 (8), Cond.methodLink RLw 12 yX6_feed, Cond.instanceMethod yX6_feed, Cond.selects RX6 yX6_feed yX6_feed, Cond.code yX6_feed cX6_feed 4 (some .int), Cond.fieldLink RX6 61 "FirstWords$Tape" "length" "I", Cond.methodLink RX6 65 yX3_put, Cond.instanceMethod yX3_put, Cond.selects RX3 yX3_put yX3_put, Cond.code yX3_put cX3_put 2 none, Cond.fieldLink RX3 15 "FirstWords$Tape" "length" "I", Cond.methodLink RLw 42 yL_letters, Cond.static yL_letters]
def wsL_law_r7 : List Cond := [Cond.code yL_letters cL_letters 4 none, Cond.methodLink RLw 51 yL_number, Cond.static yL_number, Cond.code yL_number cL_number 5 none, Cond.methodLink RLw 70 yL_ended, Cond.static yL_ended, Cond.code yL_ended cL_ended 3 (some .boolean), Cond.methodLink RLw 24 yX6_end, Cond.instanceMethod yX6_end, Cond.selects RX6 yX6_end yX6_end, Cond.code yX6_end cX6_end 3 (some .int), Cond.methodLink RLw 74 yX6_text, Cond.instanceMethod yX6_text, Cond.selects RX6 yX6_text yX6_text, Cond.code yX6_text cX6_text 4 (some .int), Cond.fieldLink RX6 73 "FirstWords$Tape" "place" "I", Cond.fieldLink RX6 76 "FirstWords$Scene" "isKept" "Z", Cond.fieldLink RX6 87 "FirstWords$Tape" "lines" "I", Cond.methodLink RX6 69 yX3_readInto, Cond.instanceMethod yX3_readInto, Cond.selects RX3 yX3_readInto yX3_readInto, Cond.code yX3_readInto cX3_readInto 3 (some .boolean), Cond.fieldLink RX3 24 "FirstWords$Tape" "fault" "I", Cond.fieldLink RX3 27 "FirstWords$Tape" "place" "I"]
def wsL_law_r8 : List Cond := [Cond.fieldLink RX3 30 "FirstWords$Tape" "lines" "I", Cond.fieldLink RX3 33 "FirstWords$Tape" "at" "I", Cond.fieldLink RX3 39 "FirstWords$Tape" "token" "I", Cond.methodLink RX3 19 yX4_empty, Cond.instanceMethod yX4_empty, Cond.selects RX4 yX4_empty yX4_empty, Cond.code yX4_empty cX4_empty 1 none, Cond.fieldLink RX4 58 "FirstWords$Told" "things" "I", Cond.fieldLink RX4 62 "FirstWords$Told" "meanings" "I", Cond.fieldLink RX4 65 "FirstWords$Told" "sounds" "I", Cond.fieldLink RX4 68 "FirstWords$Told" "kinds" "I", Cond.methodLink RX3 36 yX3_nextToken, Cond.instanceMethod yX3_nextToken, Cond.selects RX3 yX3_nextToken yX3_nextToken, Cond.code yX3_nextToken cX3_nextToken 1 none, Cond.fieldLink RX3 49 "FirstWords$Tape" "start" "I", Cond.fieldLink RX3 59 "FirstWords$Tape" "stop" "I", Cond.methodLink RX3 52 yX3_byteAt, Cond.instanceMethod yX3_byteAt, Cond.selects RX3 yX3_byteAt yX3_byteAt, Cond.code yX3_byteAt cX3_byteAt 2 (some .int), Cond.methodLink RX3 56 yX3_tokenAt, Cond.instanceMethod yX3_tokenAt, Cond.selects RX3 yX3_tokenAt yX3_tokenAt]
def wsL_law_r9 : List Cond := [Cond.code yX3_tokenAt cX3_tokenAt 3 (some .int), Cond.methodLink RX3 62 yX3_blame, Cond.instanceMethod yX3_blame, Cond.selects RX3 yX3_blame yX3_blame, Cond.code yX3_blame cX3_blame 2 none, Cond.methodLink RX3 42 yX3_readLine, Cond.instanceMethod yX3_readLine, Cond.selects RX3 yX3_readLine yX3_readLine, Cond.code yX3_readLine cX3_readLine 3 none, Cond.methodLink RX3 75 yX3_sortNamed, Cond.instanceMethod yX3_sortNamed, Cond.selects RX3 yX3_sortNamed yX3_sortNamed, Cond.code yX3_sortNamed cX3_sortNamed 1 (some .int), Cond.methodLink RX3 80 yX3_isNamed, Cond.instanceMethod yX3_isNamed, Cond.selects RX3 yX3_isNamed yX3_isNamed, Cond.code yX3_isNamed cX3_isNamed 3 (some .boolean), Cond.methodLink RX3 66 yJ0_length_8abf5, Cond.instanceMethod yJ0_length_8abf5, Cond.selects RJ0 yJ0_length_8abf5 yJ0_length_8abf5, Cond.initialized RJ0, Cond.code yJ0_length_8abf5 cJ0_length_8abf5 1 (some .int), Cond.fieldLink RJ0 9 "java/lang/String" "value" "[B", Cond.methodLink RJ0 335 yJ0_coder_7d493]
def wsL_law_r10 : List Cond := [Cond.instanceMethod yJ0_coder_7d493, Cond.selects RJ0 yJ0_coder_7d493 yJ0_coder_7d493, Cond.code yJ0_coder_7d493 cJ0_coder_7d493 1 (some .byte), Cond.fieldLink RJ0 38 "java/lang/String" "COMPACT_STRINGS" "Z", Cond.fieldLink RJ0 15 "java/lang/String" "coder" "B", Cond.methodLink RX3 71 yJ0_charAt_5068e, Cond.instanceMethod yJ0_charAt_5068e, Cond.selects RJ0 yJ0_charAt_5068e yJ0_charAt_5068e, Cond.code yJ0_charAt_5068e cJ0_charAt_5068e 2 (some .char), Cond.methodLink RJ0 492 yJ0_isLatin1_aae02, Cond.instanceMethod yJ0_isLatin1_aae02, Cond.selects RJ0 yJ0_isLatin1_aae02 yJ0_isLatin1_aae02, Cond.code yJ0_isLatin1_aae02 cJ0_isLatin1_aae02 1 (some .boolean), Cond.methodLink RJ0 495 yJ1_charAt_3b067, Cond.static yJ1_charAt_3b067, Cond.initialized RJ1, Cond.code yJ1_charAt_3b067 cJ1_charAt_3b067 2 (some .char), Cond.methodLink RJ1 9 yJ0_checkIndex_df160, Cond.static yJ0_checkIndex_df160, Cond.code yJ0_checkIndex_df160 cJ0_checkIndex_df160 2 none, Cond.fieldLink RJ0 1053 "jdk/internal/util/Preconditions" "SIOOBE_FORMATTER" "Ljava/util/function/BiFunction;", Cond.methodLink RJ0 1059 yJ3_checkIndex_8e157, Cond.static yJ3_checkIndex_8e157, Cond.initialized RJ3]
def wsL_law_r11 : List Cond := [Cond.code yJ3_checkIndex_8e157 cJ3_checkIndex_8e157 3 (some .int), Cond.methodLink RJ0 498 yJ2_charAt_3b067, Cond.static yJ2_charAt_3b067, Cond.initialized RJ2, Cond.code yJ2_charAt_3b067 cJ2_charAt_3b067 2 (some .char), Cond.methodLink RJ2 67 yJ2_checkIndex_2214a, Cond.static yJ2_checkIndex_2214a, Cond.code yJ2_checkIndex_2214a cJ2_checkIndex_2214a 2 none, Cond.methodLink RJ2 48 yJ2_length_9d52b, Cond.static yJ2_length_9d52b, Cond.code yJ2_length_9d52b cJ2_length_9d52b 1 (some .int), Cond.methodLink RJ2 414 yJ0_checkIndex_df160, Cond.methodLink RJ2 71 yJ2_getChar_3b067, Cond.static yJ2_getChar_3b067, Cond.code yJ2_getChar_3b067 cJ2_getChar_3b067 2 (some .char), Cond.fieldLink RJ2 44 "java/lang/StringUTF16" "$assertionsDisabled" "Z", Cond.fieldLink RJ2 59 "java/lang/StringUTF16" "HI_BYTE_SHIFT" "I", Cond.fieldLink RJ2 63 "java/lang/StringUTF16" "LO_BYTE_SHIFT" "I", Cond.methodLink RX3 84 yX3_readThing, Cond.instanceMethod yX3_readThing, Cond.selects RX3 yX3_readThing yX3_readThing, Cond.code yX3_readThing cX3_readThing 2 none, Cond.fieldLink RX3 109 "FirstWords$Told" "things" "I", Cond.methodLink RX3 112 yX3_takeLetters]
def wsL_law_r12 : List Cond := [Cond.instanceMethod yX3_takeLetters, Cond.selects RX3 yX3_takeLetters yX3_takeLetters, Cond.code yX3_takeLetters cX3_takeLetters 5 (some .int), Cond.static yX6_isIn, Cond.code yX6_isIn cX6_isIn 2 (some .boolean), Cond.methodLink RX3 115 yX4_addThing, Cond.instanceMethod yX4_addThing, Cond.selects RX4 yX4_addThing yX4_addThing, Cond.code yX4_addThing cX4_addThing 2 none, Cond.methodLink RX3 89 yX3_readMeaning, Cond.instanceMethod yX3_readMeaning, Cond.selects RX3 yX3_readMeaning yX3_readMeaning, Cond.code yX3_readMeaning cX3_readMeaning 4 none, Cond.fieldLink RX3 118 "FirstWords$Told" "meanings" "I", Cond.methodLink RX3 123 yX4_addMeaning, Cond.instanceMethod yX4_addMeaning, Cond.selects RX4 yX4_addMeaning yX4_addMeaning, Cond.code yX4_addMeaning cX4_addMeaning 3 none, Cond.methodLink RX4 71 yJ6_bitCount_0f7a4, Cond.static yJ6_bitCount_0f7a4, Cond.initialized RJ6, Cond.code yJ6_bitCount_0f7a4 cJ6_bitCount_0f7a4 1 (some .int), Cond.constant RJ6 265 (1431655765), Cond.constant RJ6 266 (858993459)]
def wsL_law_r13 : List Cond := [Cond.constant RJ6 267 (252645135), Cond.methodLink RX3 94 yX3_readWord, Cond.instanceMethod yX3_readWord, Cond.selects RX3 yX3_readWord yX3_readWord, Cond.code yX3_readWord cX3_readWord 2 none, Cond.fieldLink RX3 127 "FirstWords$Told" "sounds" "I", Cond.methodLink RX3 130 yX3_takeNumber, Cond.instanceMethod yX3_takeNumber, Cond.selects RX3 yX3_takeNumber yX3_takeNumber, Cond.code yX3_takeNumber cX3_takeNumber 4 (some .int), Cond.methodLink RX3 133 yX4_addSound, Cond.instanceMethod yX4_addSound, Cond.selects RX4 yX4_addSound yX4_addSound, Cond.code yX4_addSound cX4_addSound 2 none, Cond.methodLink RX3 97 yX3_readKind, Cond.instanceMethod yX3_readKind, Cond.selects RX3 yX3_readKind yX3_readKind, Cond.code yX3_readKind cX3_readKind 7 none, Cond.fieldLink RX3 136 "FirstWords$Told" "kinds" "I", Cond.fieldLink RX3 149 "FirstWords$Told" "sees" "[I", Cond.fieldLink RX3 152 "FirstWords$Told" "fears" "[I", Cond.fieldLink RX3 155 "FirstWords$Told" "chance" "[I", Cond.fieldLink RX3 158 "FirstWords$Told" "unlike" "[Z", Cond.methodLink RX3 139 yX4_addKind]
def wsL_law_r14 : List Cond := [Cond.instanceMethod yX4_addKind, Cond.selects RX4 yX4_addKind yX4_addKind, Cond.code yX4_addKind cX4_addKind 2 none, Cond.methodLink RX3 142 yX3_withNamed, Cond.instanceMethod yX3_withNamed, Cond.selects RX3 yX3_withNamed yX3_withNamed, Cond.code yX3_withNamed cX3_withNamed 1 (some .int), Cond.methodLink RX3 46 yX4_settle, Cond.instanceMethod yX4_settle, Cond.selects RX4 yX4_settle yX4_settle, Cond.code yX4_settle cX4_settle 3 none, Cond.methodLink RX4 77 yX4_settleMeanings, Cond.instanceMethod yX4_settleMeanings, Cond.selects RX4 yX4_settleMeanings yX4_settleMeanings, Cond.code yX4_settleMeanings cX4_settleMeanings 4 none, Cond.methodLink RX6 80 yX1_empty, Cond.instanceMethod yX1_empty, Cond.selects RX1 yX1_empty yX1_empty, Cond.code yX1_empty cX1_empty 2 none, Cond.fieldLink RX1 28 "FirstWords$Scene" "showings" "I", Cond.fieldLink RX1 32 "FirstWords$Scene" "theirs" "I", Cond.fieldLink RX1 41 "FirstWords$Scene" "left" "I", Cond.methodLink RX1 35 yX4_allKinds, Cond.instanceMethod yX4_allKinds]
def wsL_law_r15 : List Cond := [Cond.selects RX4 yX4_allKinds yX4_allKinds, Cond.code yX4_allKinds cX4_allKinds 1 (some .int), Cond.methodLink RX6 84 yX0_blank, Cond.instanceMethod yX0_blank, Cond.selects RX0 yX0_blank yX0_blank, Cond.code yX0_blank cX0_blank 3 none, Cond.fieldLink RX0 27 "FirstWords$Minds" "seen" "I", Cond.methodLink RX0 31 yX4_allMeanings, Cond.instanceMethod yX4_allMeanings, Cond.selects RX4 yX4_allMeanings yX4_allMeanings, Cond.code yX4_allMeanings cX4_allMeanings 1 (some .int), Cond.methodLink RLw 102 yX6_thing, Cond.instanceMethod yX6_thing, Cond.selects RX6 yX6_thing yX6_thing, Cond.code yX6_thing cX6_thing 2 (some .int), Cond.fieldLink RX6 97 "FirstWords$Told" "marks" "[I", Cond.methodLink RX6 93 yX4_hasThing, Cond.instanceMethod yX4_hasThing, Cond.selects RX4 yX4_hasThing yX4_hasThing, Cond.code yX4_hasThing cX4_hasThing 2 (some .boolean), Cond.methodLink RLw 105 yX6_meaning, Cond.instanceMethod yX6_meaning, Cond.selects RX6 yX6_meaning yX6_meaning, Cond.code yX6_meaning cX6_meaning 3 (some .int)]
def wsL_law_r16 : List Cond := [Cond.fieldLink RX6 104 "FirstWords$Told" "has" "[I", Cond.fieldLink RX6 107 "FirstWords$Told" "hasNot" "[I", Cond.fieldLink RX6 110 "FirstWords$Told" "asks" "[I", Cond.fieldLink RX6 113 "FirstWords$Told" "are" "[I", Cond.methodLink RX6 101 yX4_hasMeaning, Cond.instanceMethod yX4_hasMeaning, Cond.selects RX4 yX4_hasMeaning yX4_hasMeaning, Cond.code yX4_hasMeaning cX4_hasMeaning 2 (some .boolean), Cond.methodLink RX6 116 yX4_kindsThatCan, Cond.instanceMethod yX4_kindsThatCan, Cond.selects RX4 yX4_kindsThatCan yX4_kindsThatCan, Cond.code yX4_kindsThatCan cX4_kindsThatCan 4 (some .int), Cond.methodLink RLw 78 yL_ones, Cond.static yL_ones, Cond.code yL_ones cL_ones 3 (some .int), Cond.methodLink RLw 108 yX6_kind, Cond.instanceMethod yX6_kind, Cond.selects RX6 yX6_kind yX6_kind, Cond.code yX6_kind cX6_kind 3 (some .int), Cond.fieldLink RX6 129 "FirstWords$Told" "sort" "[I", Cond.fieldLink RX6 132 "FirstWords$Told" "sees" "[I", Cond.fieldLink RX6 135 "FirstWords$Told" "fears" "[I", Cond.fieldLink RX6 138 "FirstWords$Told" "unlike" "[Z", Cond.fieldLink RX6 142 "FirstWords$Told" "chance" "[I"]
def wsL_law_r17 : List Cond := [Cond.fieldLink RX6 145 "FirstWords$Told" "can" "[I", Cond.methodLink RX6 126 yX4_hasKind, Cond.instanceMethod yX4_hasKind, Cond.selects RX4 yX4_hasKind yX4_hasKind, Cond.code yX4_hasKind cX4_hasKind 2 (some .boolean), Cond.methodLink RLw 111 yX6_teach, Cond.instanceMethod yX6_teach, Cond.selects RX6 yX6_teach yX6_teach, Cond.code yX6_teach cX6_teach 3 (some .int), Cond.methodLink RX6 155 yX4_isTarget, Cond.instanceMethod yX4_isTarget, Cond.selects RX4 yX4_isTarget yX4_isTarget, Cond.code yX4_isTarget cX4_isTarget 3 (some .boolean), Cond.methodLink RX4 98 yX4_targetThings, Cond.instanceMethod yX4_targetThings, Cond.selects RX4 yX4_targetThings yX4_targetThings, Cond.code yX4_targetThings cX4_targetThings 2 (some .int), Cond.methodLink RX4 92 yX4_hasSound, Cond.instanceMethod yX4_hasSound, Cond.selects RX4 yX4_hasSound yX4_hasSound, Cond.code yX4_hasSound cX4_hasSound 2 (some .boolean), Cond.methodLink RX4 95 yX4_hasMeaning, Cond.methodLink RX6 159 yX6_show, Cond.instanceMethod yX6_show]
def wsL_law_r18 : List Cond := [Cond.selects RX6 yX6_show yX6_show, Cond.code yX6_show cX6_show 4 (some .int), Cond.fieldLink RX6 148 "FirstWords$Scene" "showings" "I", Cond.methodLink RX6 120 yX4_hasSound, Cond.methodLink RX6 151 yX6_takeShowing, Cond.instanceMethod yX6_takeShowing, Cond.selects RX6 yX6_takeShowing yX6_takeShowing, Cond.code yX6_takeShowing cX6_takeShowing 5 none, Cond.fieldLink RX6 173 "FirstWords$Scene" "sound" "[I", Cond.fieldLink RX6 176 "FirstWords$Scene" "thing" "[I", Cond.fieldLink RX6 179 "FirstWords$Scene" "so" "[Z", Cond.methodLink RX6 166 yX4_allKinds, Cond.methodLink RX6 343 yX0_witness, Cond.instanceMethod yX0_witness, Cond.selects RX0 yX0_witness yX0_witness, Cond.code yX0_witness cX0_witness 9 (some .boolean), Cond.fieldLink RX0 54 "FirstWords$Told" "kinds" "I", Cond.fieldLink RX0 61 "FirstWords$Told" "fears" "[I", Cond.methodLink RX0 43 yX4_hasSound, Cond.methodLink RX0 47 yX4_hasThing, Cond.methodLink RX0 50 yX4_fitting, Cond.instanceMethod yX4_fitting, Cond.selects RX4 yX4_fitting yX4_fitting, Cond.code yX4_fitting cX4_fitting 3 (some .int)]
def wsL_law_r19 : List Cond := [Cond.methodLink RX4 84 yX4_hasThing, Cond.methodLink RX4 88 yX4_allMeanings, Cond.methodLink RX0 64 yX0_frighten, Cond.instanceMethod yX0_frighten, Cond.selects RX0 yX0_frighten yX0_frighten, Cond.code yX0_frighten cX0_frighten 3 none, Cond.methodLink RX0 68 yX0_look, Cond.instanceMethod yX0_look, Cond.selects RX0 yX0_look yX0_look, Cond.code yX0_look cX0_look 12 (some .boolean), Cond.fieldLink RX0 80 "FirstWords$Told" "sort" "[I", Cond.fieldLink RX0 83 "FirstWords$Told" "alike" "[I", Cond.methodLink RX0 72 yX0_choices, Cond.instanceMethod yX0_choices, Cond.selects RX0 yX0_choices yX0_choices, Cond.code yX0_choices cX0_choices 7 (some .int), Cond.fieldLink RX0 90 "FirstWords$Told" "can" "[I", Cond.fieldLink RX0 93 "FirstWords$Told" "sounds" "I", Cond.fieldLink RX0 96 "FirstWords$Told" "unlike" "[Z", Cond.methodLink RX0 100 yX0_thoughtOf, Cond.instanceMethod yX0_thoughtOf, Cond.selects RX0 yX0_thoughtOf yX0_thoughtOf, Cond.code yX0_thoughtOf cX0_thoughtOf 4 (some .int), Cond.methodLink RX0 76 yX4_plainest]
def wsL_law_r20 : List Cond := [Cond.instanceMethod yX4_plainest, Cond.selects RX4 yX4_plainest yX4_plainest, Cond.code yX4_plainest cX4_plainest 3 (some .int), Cond.methodLink RX0 86 yX0_holdOrTurn, Cond.instanceMethod yX0_holdOrTurn, Cond.selects RX0 yX0_holdOrTurn yX0_holdOrTurn, Cond.code yX0_holdOrTurn cX0_holdOrTurn 5 none, Cond.methodLink RLw 114 yX6_show, Cond.methodLink RLw 118 yX6_undo, Cond.instanceMethod yX6_undo, Cond.selects RX6 yX6_undo yX6_undo, Cond.code yX6_undo cX6_undo 1 (some .int), Cond.methodLink RX6 163 yX6_thinkAgain, Cond.instanceMethod yX6_thinkAgain, Cond.selects RX6 yX6_thinkAgain yX6_thinkAgain, Cond.code yX6_thinkAgain cX6_thinkAgain 2 none, Cond.methodLink RLw 121 yX6_keep, Cond.instanceMethod yX6_keep, Cond.selects RX6 yX6_keep yX6_keep, Cond.code yX6_keep cX6_keep 3 (some .int), Cond.methodLink RX6 308 yX1_become, Cond.instanceMethod yX1_become, Cond.selects RX1 yX1_become yX1_become, Cond.code yX1_become cX1_become 3 none]
def wsL_law_r21 : List Cond := [Cond.methodLink RX1 44 arraycopyName, Cond.native arraycopyName, Cond.static arraycopyName, Cond.initialized "java/lang/System", Cond.methodLink RLw 124 yX6_back, Cond.instanceMethod yX6_back, Cond.selects RX6 yX6_back yX6_back, Cond.code yX6_back cX6_back 2 (some .int), Cond.methodLink RLw 127 yX6_clear, Cond.instanceMethod yX6_clear, Cond.selects RX6 yX6_clear yX6_clear, Cond.code yX6_clear cX6_clear 2 (some .int), Cond.fieldLink RX6 170 "FirstWords$Scene" "left" "I", Cond.methodLink RLw 130 yL_all, Cond.static yL_all, Cond.code yL_all cL_all 9 none, Cond.methodLink RLw 85 yL_fresh, Cond.static yL_fresh, Cond.code yL_fresh cL_fresh 2 none, Cond.methodLink RLw 89 yL_fitting, Cond.static yL_fitting, Cond.code yL_fitting cL_fitting 8 (some .int), Cond.methodLink RLw 93 yL_learns, Cond.static yL_learns]
def wsL_law_r22 : List Cond := [Cond.code yL_learns cL_learns 16 none, Cond.methodLink RLw 81 yL_plainest, Cond.static yL_plainest, Cond.code yL_plainest cL_plainest 7 (some .int), Cond.methodLink RLw 134 yX6_count, Cond.instanceMethod yX6_count, Cond.selects RX6 yX6_count yX6_count, Cond.code yX6_count cX6_count 2 (some .int), Cond.fieldLink RX6 242 "FirstWords$Told" "things" "I", Cond.fieldLink RX6 334 "FirstWords$Told" "meanings" "I", Cond.fieldLink RX6 202 "FirstWords$Told" "sounds" "I", Cond.fieldLink RX6 305 "FirstWords$Told" "kinds" "I", Cond.fieldLink RX6 282 "FirstWords$Scene" "theirs" "I", Cond.fieldLink RX6 340 "FirstWords$Sheets" "size" "[I", Cond.methodLink RX6 337 yX6_imagesKept, Cond.instanceMethod yX6_imagesKept, Cond.selects RX6 yX6_imagesKept yX6_imagesKept, Cond.code yX6_imagesKept cX6_imagesKept 3 (some .int), Cond.methodLink RLw 137 yX6_shown, Cond.instanceMethod yX6_shown, Cond.selects RX6 yX6_shown yX6_shown, Cond.code yX6_shown cX6_shown 3 (some .int), Cond.methodLink RLw 140 yL_isSame, Cond.static yL_isSame]
def wsL_law_r23 : List Cond := [Cond.code yL_isSame cL_isSame 6 (some .boolean), Cond.methodLink RLw 144 yX6_thinks, Cond.instanceMethod yX6_thinks, Cond.selects RX6 yX6_thinks yX6_thinks, Cond.code yX6_thinks cX6_thinks 3 (some .int), Cond.methodLink RX6 182 yX0_thoughtOf, Cond.methodLink RLw 147 yX6_against, Cond.instanceMethod yX6_against, Cond.selects RX6 yX6_against yX6_against, Cond.code yX6_against cX6_against 3 (some .int), Cond.fieldLink RX6 196 "FirstWords$Minds" "wrong" "[I", Cond.methodLink RLw 150 yX6_same, Cond.instanceMethod yX6_same, Cond.selects RX6 yX6_same yX6_same, Cond.code yX6_same cX6_same 3 (some .int), Cond.methodLink RX6 189 yX0_isSame, Cond.instanceMethod yX0_isSame, Cond.selects RX0 yX0_isSame yX0_isSame, Cond.code yX0_isSame cX0_isSame 4 (some .boolean), Cond.methodLink RX0 104 yX4_likeTarget, Cond.instanceMethod yX4_likeTarget, Cond.selects RX4 yX4_likeTarget yX4_likeTarget, Cond.code yX4_likeTarget cX4_likeTarget 2 (some .int), Cond.methodLink RLw 153 yX6_fits]
def wsL_law_r24 : List Cond := [Cond.instanceMethod yX6_fits, Cond.selects RX6 yX6_fits yX6_fits, Cond.code yX6_fits cX6_fits 3 (some .int), Cond.fieldLink RX6 186 "FirstWords$Minds" "fit" "[I", Cond.methodLink RLw 156 yX6_fled, Cond.instanceMethod yX6_fled, Cond.selects RX6 yX6_fled yX6_fled, Cond.code yX6_fled cX6_fled 2 (some .int), Cond.fieldLink RX6 193 "FirstWords$Minds" "fledAt" "[I", Cond.methodLink RLw 159 yX6_answer, Cond.instanceMethod yX6_answer, Cond.selects RX6 yX6_answer yX6_answer, Cond.code yX6_answer cX6_answer 4 (some .int), Cond.methodLink RX6 260 yX0_answerOf, Cond.instanceMethod yX0_answerOf, Cond.selects RX0 yX0_answerOf yX0_answerOf, Cond.code yX0_answerOf cX0_answerOf 6 (some .int), Cond.fieldLink RX0 117 "FirstWords$Told" "are" "[I", Cond.methodLink RX0 114 yX4_hasMeaning, Cond.methodLink RLw 163 yX6_likely, Cond.instanceMethod yX6_likely, Cond.selects RX6 yX6_likely yX6_likely, Cond.code yX6_likely cX6_likely 4 (some .int), Cond.methodLink RX6 251 yX4_chances]
def wsL_law_r25 : List Cond := [Cond.instanceMethod yX4_chances, Cond.selects RX4 yX4_chances yX4_chances, Cond.code yX4_chances cX4_chances 4 (some .int), Cond.methodLink RX6 278 yX0_chanceOfSame, Cond.instanceMethod yX0_chanceOfSame, Cond.selects RX0 yX0_chanceOfSame yX0_chanceOfSame, Cond.code yX0_chanceOfSame cX0_chanceOfSame 5 (some .int), Cond.fieldLink RX0 111 "FirstWords$Told" "chance" "[I", Cond.methodLink RX0 107 yX0_isSame, Cond.methodLink RX6 254 yX6_ofLowestTerms, Cond.static yX6_ofLowestTerms, Cond.code yX6_ofLowestTerms cX6_ofLowestTerms 7 (some .int), Cond.methodLink RLw 166 yX6_common, Cond.instanceMethod yX6_common, Cond.selects RX6 yX6_common yX6_common, Cond.code yX6_common cX6_common 4 (some .int), Cond.methodLink RX6 199 yX4_areKinds, Cond.instanceMethod yX4_areKinds, Cond.selects RX4 yX4_areKinds yX4_areKinds, Cond.code yX4_areKinds cX4_areKinds 2 (some .boolean), Cond.methodLink RX6 205 yX0_isSameForAll, Cond.instanceMethod yX0_isSameForAll, Cond.selects RX0 yX0_isSameForAll yX0_isSameForAll, Cond.code yX0_isSameForAll cX0_isSameForAll 5 (some .boolean)]
def wsL_law_r26 : List Cond := [Cond.methodLink RLw 169 yX6_word, Cond.instanceMethod yX6_word, Cond.selects RX6 yX6_word yX6_word, Cond.code yX6_word cX6_word 2 (some .int), Cond.fieldLink RX6 123 "FirstWords$Told" "target" "[I"]
def wsL_law : List Cond := (wsL_law_r1 ++ (wsL_law_r2 ++ (wsL_law_r3 ++ (wsL_law_r4 ++ (wsL_law_r5 ++ (wsL_law_r6 ++ (wsL_law_r7 ++ (wsL_law_r8 ++ (wsL_law_r9 ++ (wsL_law_r10 ++ (wsL_law_r11 ++ (wsL_law_r12 ++ (wsL_law_r13 ++ (wsL_law_r14 ++ (wsL_law_r15 ++ (wsL_law_r16 ++ (wsL_law_r17 ++ (wsL_law_r18 ++ (wsL_law_r19 ++ (wsL_law_r20 ++ (wsL_law_r21 ++ (wsL_law_r22 ++ (wsL_law_r23 ++ (wsL_law_r24 ++ (wsL_law_r25 ++ wsL_law_r26))))))))))))))))))))))))) ++ wsX60 ++ wsX30 ++ wsX40 ++ wsX10 ++ wsX00 ++ wsX50 ++ wsX20 ++ ([] : List Cond)
theorem inlX0 : ∀ w ∈ wsX00, w ∈ wsL_law := fun _ h => List.mem_append_left _ (List.mem_append_left _ (List.mem_append_left _ (List.mem_append_right _ h)))
theorem inlX1 : ∀ w ∈ wsX10, w ∈ wsL_law := fun _ h => List.mem_append_left _ (List.mem_append_left _ (List.mem_append_left _ (List.mem_append_left _ (List.mem_append_right _ h))))
theorem inlX2 : ∀ w ∈ wsX20, w ∈ wsL_law := fun _ h => List.mem_append_left _ (List.mem_append_right _ h)
theorem inlX3 : ∀ w ∈ wsX30, w ∈ wsL_law := fun _ h => List.mem_append_left _ (List.mem_append_left _ (List.mem_append_left _ (List.mem_append_left _ (List.mem_append_left _ (List.mem_append_left _ (List.mem_append_right _ h))))))
theorem inlX4 : ∀ w ∈ wsX40, w ∈ wsL_law := fun _ h => List.mem_append_left _ (List.mem_append_left _ (List.mem_append_left _ (List.mem_append_left _ (List.mem_append_left _ (List.mem_append_right _ h)))))
theorem inlX5 : ∀ w ∈ wsX50, w ∈ wsL_law := fun _ h => List.mem_append_left _ (List.mem_append_left _ (List.mem_append_right _ h))
theorem inlX6 : ∀ w ∈ wsX60, w ∈ wsL_law := fun _ h => List.mem_append_left _ (List.mem_append_left _ (List.mem_append_left _ (List.mem_append_left _ (List.mem_append_left _ (List.mem_append_left _ (List.mem_append_left _ (List.mem_append_right _ h)))))))
abbrev vwCl : List vw_C := [(RX0, TX0, 6), (RX1, TX1, 9), (RX2, TX2, 3), (RX3, TX3, 9), (RX4, TX4, 19), (RX5, TX5, 10), (RX6, TX6, 10)]
end
section
set_option maxRecDepth 20000 in
theorem wsL_in_1_0 : GoodIn lw_tbl [Cond.classLink RLw 13 RX6, Cond.instantiable RX6 10, Cond.initialized RX6, Cond.arrayClass .int] := goodIn_p [Cond.classLink RLw 13 RX6, Cond.instantiable RX6 10, Cond.initialized RX6, Cond.arrayClass .int] [] (by decide +kernel) (by decide +kernel)
set_option maxRecDepth 20000 in
theorem wsL_in_1_1 : GoodIn lw_tbl [Cond.methodLink RLw 97 yX6_init, Cond.instanceMethod yX6_init, Cond.code yX6_init cX6_init 2 none, Cond.methodLink RX6 1 objectInit] := goodIn_p [Cond.methodLink RLw 97 yX6_init, Cond.instanceMethod yX6_init, Cond.code yX6_init cX6_init 2 none, Cond.methodLink RX6 1 objectInit] [39] (by decide +kernel) (by decide +kernel)
set_option maxRecDepth 20000 in
theorem wsL_in_1_2 : GoodIn lw_tbl [Cond.instanceMethod objectInit, Cond.code objectInit ⟨#[0xb1]⟩ 1 none, Cond.classLink RX6 7 RX3, Cond.instantiable RX3 9] := goodIn_p [Cond.instanceMethod objectInit, Cond.code objectInit ⟨#[0xb1]⟩ 1 none, Cond.classLink RX6 7 RX3, Cond.instantiable RX3 9] [42] (by decide +kernel) (by decide +kernel)
set_option maxRecDepth 20000 in
theorem wsL_in_1_3 : GoodIn lw_tbl [Cond.initialized RX3, Cond.fieldLink RX6 10 "FirstWords" "tape" "LFirstWords$Tape;", Cond.classLink RX6 16 RX4, Cond.instantiable RX4 19] := goodIn_p [Cond.initialized RX3, Cond.fieldLink RX6 10 "FirstWords" "tape" "LFirstWords$Tape;", Cond.classLink RX6 16 RX4, Cond.instantiable RX4 19] [] (by decide +kernel) (by decide +kernel)
set_option maxRecDepth 20000 in
theorem wsL_in_1_4 : GoodIn lw_tbl [Cond.initialized RX4, Cond.fieldLink RX6 19 "FirstWords" "told" "LFirstWords$Told;", Cond.fieldLink RX6 23 "FirstWords" "draft" "LFirstWords$Told;", Cond.classLink RX6 26 RX1] := goodIn_p [Cond.initialized RX4, Cond.fieldLink RX6 19 "FirstWords" "told" "LFirstWords$Told;", Cond.fieldLink RX6 23 "FirstWords" "draft" "LFirstWords$Told;", Cond.classLink RX6 26 RX1] [] (by decide +kernel) (by decide +kernel)
set_option maxRecDepth 20000 in
theorem wsL_in_1_5 : GoodIn lw_tbl [Cond.instantiable RX1 9, Cond.initialized RX1, Cond.fieldLink RX6 29 "FirstWords" "now" "LFirstWords$Scene;", Cond.fieldLink RX6 33 "FirstWords" "images" "[LFirstWords$Scene;"] := goodIn_p [Cond.instantiable RX1 9, Cond.initialized RX1, Cond.fieldLink RX6 29 "FirstWords" "now" "LFirstWords$Scene;", Cond.fieldLink RX6 33 "FirstWords" "images" "[LFirstWords$Scene;"] [] (by decide +kernel) (by decide +kernel)
theorem wsL_in_1 : GoodIn lw_tbl wsL_law_r1 := (goodIn_app wsL_in_1_0 (goodIn_app wsL_in_1_1 (goodIn_app wsL_in_1_2 (goodIn_app wsL_in_1_3 (goodIn_app wsL_in_1_4 wsL_in_1_5)))))
set_option maxRecDepth 20000 in
theorem wsL_in_2_0 : GoodIn lw_tbl [Cond.classLink RX6 37 RX0, Cond.instantiable RX0 6, Cond.initialized RX0, Cond.fieldLink RX6 40 "FirstWords" "minds" "LFirstWords$Minds;"] := goodIn_p [Cond.classLink RX6 37 RX0, Cond.instantiable RX0 6, Cond.initialized RX0, Cond.fieldLink RX6 40 "FirstWords" "minds" "LFirstWords$Minds;"] [] (by decide +kernel) (by decide +kernel)
set_option maxRecDepth 20000 in
theorem wsL_in_2_1 : GoodIn lw_tbl [Cond.fieldLink RX6 44 "FirstWords" "trial" "LFirstWords$Minds;", Cond.classLink RX6 47 RX5, Cond.instantiable RX5 10, Cond.initialized RX5] := goodIn_p [Cond.fieldLink RX6 44 "FirstWords" "trial" "LFirstWords$Minds;", Cond.classLink RX6 47 RX5, Cond.instantiable RX5 10, Cond.initialized RX5] [] (by decide +kernel) (by decide +kernel)
set_option maxRecDepth 20000 in
theorem wsL_in_2_2 : GoodIn lw_tbl [Cond.fieldLink RX6 50 "FirstWords" "tutor" "LFirstWords$Tutor;", Cond.classLink RX6 54 RX2, Cond.instantiable RX2 3, Cond.initialized RX2] := goodIn_p [Cond.fieldLink RX6 50 "FirstWords" "tutor" "LFirstWords$Tutor;", Cond.classLink RX6 54 RX2, Cond.instantiable RX2 3, Cond.initialized RX2] [] (by decide +kernel) (by decide +kernel)
set_option maxRecDepth 20000 in
theorem wsL_in_2_3 : GoodIn lw_tbl [Cond.fieldLink RX6 57 "FirstWords" "sheets" "LFirstWords$Sheets;", Cond.methodLink RX6 9 yX3_init, Cond.instanceMethod yX3_init, Cond.code yX3_init cX3_init 1 none] := goodIn_p [Cond.fieldLink RX6 57 "FirstWords" "sheets" "LFirstWords$Sheets;", Cond.methodLink RX6 9 yX3_init, Cond.instanceMethod yX3_init, Cond.code yX3_init cX3_init 1 none] [47] (by decide +kernel) (by decide +kernel)
set_option maxRecDepth 20000 in
theorem wsL_in_2_4 : GoodIn lw_tbl [Cond.methodLink RX3 3 objectInit, Cond.fieldLink RX3 9 "FirstWords$Tape" "bytes" "[I", Cond.methodLink RX6 18 yX4_init, Cond.instanceMethod yX4_init] := goodIn_p [Cond.methodLink RX3 3 objectInit, Cond.fieldLink RX3 9 "FirstWords$Tape" "bytes" "[I", Cond.methodLink RX6 18 yX4_init, Cond.instanceMethod yX4_init] [] (by decide +kernel) (by decide +kernel)
set_option maxRecDepth 20000 in
theorem wsL_in_2_5 : GoodIn lw_tbl [Cond.code yX4_init cX4_init 1 none, Cond.methodLink RX4 3 objectInit, Cond.fieldLink RX4 9 "FirstWords$Told" "marks" "[I", Cond.fieldLink RX4 15 "FirstWords$Told" "isIt" "[I"] := goodIn_p [Cond.code yX4_init cX4_init 1 none, Cond.methodLink RX4 3 objectInit, Cond.fieldLink RX4 9 "FirstWords$Told" "marks" "[I", Cond.fieldLink RX4 15 "FirstWords$Told" "isIt" "[I"] [85] (by decide +kernel) (by decide +kernel)
theorem wsL_in_2 : GoodIn lw_tbl wsL_law_r2 := (goodIn_app wsL_in_2_0 (goodIn_app wsL_in_2_1 (goodIn_app wsL_in_2_2 (goodIn_app wsL_in_2_3 (goodIn_app wsL_in_2_4 wsL_in_2_5)))))
set_option maxRecDepth 20000 in
theorem wsL_in_3_0 : GoodIn lw_tbl [Cond.fieldLink RX4 18 "FirstWords$Told" "has" "[I", Cond.fieldLink RX4 21 "FirstWords$Told" "hasNot" "[I", Cond.fieldLink RX4 24 "FirstWords$Told" "asks" "[I", Cond.fieldLink RX4 27 "FirstWords$Told" "are" "[I"] := goodIn_p [Cond.fieldLink RX4 18 "FirstWords$Told" "has" "[I", Cond.fieldLink RX4 21 "FirstWords$Told" "hasNot" "[I", Cond.fieldLink RX4 24 "FirstWords$Told" "asks" "[I", Cond.fieldLink RX4 27 "FirstWords$Told" "are" "[I"] [] (by decide +kernel) (by decide +kernel)
set_option maxRecDepth 20000 in
theorem wsL_in_3_1 : GoodIn lw_tbl [Cond.fieldLink RX4 30 "FirstWords$Told" "alike" "[I", Cond.fieldLink RX4 33 "FirstWords$Told" "fromPlainest" "[I", Cond.fieldLink RX4 36 "FirstWords$Told" "target" "[I", Cond.fieldLink RX4 39 "FirstWords$Told" "sort" "[I"] := goodIn_p [Cond.fieldLink RX4 30 "FirstWords$Told" "alike" "[I", Cond.fieldLink RX4 33 "FirstWords$Told" "fromPlainest" "[I", Cond.fieldLink RX4 36 "FirstWords$Told" "target" "[I", Cond.fieldLink RX4 39 "FirstWords$Told" "sort" "[I"] [] (by decide +kernel) (by decide +kernel)
set_option maxRecDepth 20000 in
theorem wsL_in_3_2 : GoodIn lw_tbl [Cond.fieldLink RX4 42 "FirstWords$Told" "sees" "[I", Cond.fieldLink RX4 45 "FirstWords$Told" "fears" "[I", Cond.arrayClass .boolean, Cond.fieldLink RX4 48 "FirstWords$Told" "unlike" "[Z"] := goodIn_p [Cond.fieldLink RX4 42 "FirstWords$Told" "sees" "[I", Cond.fieldLink RX4 45 "FirstWords$Told" "fears" "[I", Cond.arrayClass .boolean, Cond.fieldLink RX4 48 "FirstWords$Told" "unlike" "[Z"] [] (by decide +kernel) (by decide +kernel)
set_option maxRecDepth 20000 in
theorem wsL_in_3_3 : GoodIn lw_tbl [Cond.fieldLink RX4 52 "FirstWords$Told" "chance" "[I", Cond.fieldLink RX4 55 "FirstWords$Told" "can" "[I", Cond.methodLink RX6 28 yX1_init, Cond.instanceMethod yX1_init] := goodIn_p [Cond.fieldLink RX4 52 "FirstWords$Told" "chance" "[I", Cond.fieldLink RX4 55 "FirstWords$Told" "can" "[I", Cond.methodLink RX6 28 yX1_init, Cond.instanceMethod yX1_init] [] (by decide +kernel) (by decide +kernel)
set_option maxRecDepth 20000 in
theorem wsL_in_3_4 : GoodIn lw_tbl [Cond.code yX1_init cX1_init 1 none, Cond.methodLink RX1 3 objectInit, Cond.fieldLink RX1 9 "FirstWords$Scene" "sound" "[I", Cond.fieldLink RX1 15 "FirstWords$Scene" "thing" "[I"] := goodIn_p [Cond.code yX1_init cX1_init 1 none, Cond.methodLink RX1 3 objectInit, Cond.fieldLink RX1 9 "FirstWords$Scene" "sound" "[I", Cond.fieldLink RX1 15 "FirstWords$Scene" "thing" "[I"] [183] (by decide +kernel) (by decide +kernel)
set_option maxRecDepth 20000 in
theorem wsL_in_3_5 : GoodIn lw_tbl [Cond.fieldLink RX1 18 "FirstWords$Scene" "so" "[Z", Cond.fieldLink RX1 22 "FirstWords$Scene" "theirThing" "[I", Cond.fieldLink RX1 25 "FirstWords$Scene" "theirSo" "[Z", Cond.methodLink RX6 39 yX0_init] := goodIn_p [Cond.fieldLink RX1 18 "FirstWords$Scene" "so" "[Z", Cond.fieldLink RX1 22 "FirstWords$Scene" "theirThing" "[I", Cond.fieldLink RX1 25 "FirstWords$Scene" "theirSo" "[Z", Cond.methodLink RX6 39 yX0_init] [] (by decide +kernel) (by decide +kernel)
theorem wsL_in_3 : GoodIn lw_tbl wsL_law_r3 := (goodIn_app wsL_in_3_0 (goodIn_app wsL_in_3_1 (goodIn_app wsL_in_3_2 (goodIn_app wsL_in_3_3 (goodIn_app wsL_in_3_4 wsL_in_3_5)))))
set_option maxRecDepth 20000 in
theorem wsL_in_4_0 : GoodIn lw_tbl [Cond.instanceMethod yX0_init, Cond.code yX0_init cX0_init 1 none, Cond.methodLink RX0 3 objectInit, Cond.fieldLink RX0 9 "FirstWords$Minds" "thought" "[I"] := goodIn_p [Cond.instanceMethod yX0_init, Cond.code yX0_init cX0_init 1 none, Cond.methodLink RX0 3 objectInit, Cond.fieldLink RX0 9 "FirstWords$Minds" "thought" "[I"] [224] (by decide +kernel) (by decide +kernel)
set_option maxRecDepth 20000 in
theorem wsL_in_4_1 : GoodIn lw_tbl [Cond.fieldLink RX0 15 "FirstWords$Minds" "wrong" "[I", Cond.fieldLink RX0 18 "FirstWords$Minds" "latest" "[I", Cond.fieldLink RX0 21 "FirstWords$Minds" "fledAt" "[I", Cond.fieldLink RX0 24 "FirstWords$Minds" "fit" "[I"] := goodIn_p [Cond.fieldLink RX0 15 "FirstWords$Minds" "wrong" "[I", Cond.fieldLink RX0 18 "FirstWords$Minds" "latest" "[I", Cond.fieldLink RX0 21 "FirstWords$Minds" "fledAt" "[I", Cond.fieldLink RX0 24 "FirstWords$Minds" "fit" "[I"] [] (by decide +kernel) (by decide +kernel)
set_option maxRecDepth 20000 in
theorem wsL_in_4_2 : GoodIn lw_tbl [Cond.methodLink RX6 49 yX5_init, Cond.instanceMethod yX5_init, Cond.code yX5_init cX5_init 2 none, Cond.methodLink RX5 3 objectInit] := goodIn_p [Cond.methodLink RX6 49 yX5_init, Cond.instanceMethod yX5_init, Cond.code yX5_init cX5_init 2 none, Cond.methodLink RX5 3 objectInit] [252] (by decide +kernel) (by decide +kernel)
set_option maxRecDepth 20000 in
theorem wsL_in_4_3 : GoodIn lw_tbl [Cond.fieldLink RX5 9 "FirstWords$Tutor" "row" "[I", Cond.fieldLink RX5 15 "FirstWords$Tutor" "bestOrder" "[I", Cond.fieldLink RX5 18 "FirstWords$Tutor" "tried" "[I", Cond.classLink RX5 21 RX0] := goodIn_p [Cond.fieldLink RX5 9 "FirstWords$Tutor" "row" "[I", Cond.fieldLink RX5 15 "FirstWords$Tutor" "bestOrder" "[I", Cond.fieldLink RX5 18 "FirstWords$Tutor" "tried" "[I", Cond.classLink RX5 21 RX0] [] (by decide +kernel) (by decide +kernel)
set_option maxRecDepth 20000 in
theorem wsL_in_4_4 : GoodIn lw_tbl [Cond.fieldLink RX5 23 "FirstWords$Tutor" "alongRow" "[LFirstWords$Minds;", Cond.fieldLink RX5 27 "FirstWords$Tutor" "alongOrder" "[LFirstWords$Minds;", Cond.methodLink RX5 30 yX0_init, Cond.methodLink RX6 56 yX2_init] := goodIn_p [Cond.fieldLink RX5 23 "FirstWords$Tutor" "alongRow" "[LFirstWords$Minds;", Cond.fieldLink RX5 27 "FirstWords$Tutor" "alongOrder" "[LFirstWords$Minds;", Cond.methodLink RX5 30 yX0_init, Cond.methodLink RX6 56 yX2_init] [] (by decide +kernel) (by decide +kernel)
set_option maxRecDepth 20000 in
theorem wsL_in_4_5 : GoodIn lw_tbl [Cond.instanceMethod yX2_init, Cond.code yX2_init cX2_init 2 none, Cond.methodLink RX2 3 objectInit, Cond.fieldLink RX2 9 "FirstWords$Sheets" "size" "[I"] := goodIn_p [Cond.instanceMethod yX2_init, Cond.code yX2_init cX2_init 2 none, Cond.methodLink RX2 3 objectInit, Cond.fieldLink RX2 9 "FirstWords$Sheets" "size" "[I"] [287] (by decide +kernel) (by decide +kernel)
theorem wsL_in_4 : GoodIn lw_tbl wsL_law_r4 := (goodIn_app wsL_in_4_0 (goodIn_app wsL_in_4_1 (goodIn_app wsL_in_4_2 (goodIn_app wsL_in_4_3 (goodIn_app wsL_in_4_4 wsL_in_4_5)))))
set_option maxRecDepth 20000 in
theorem wsL_in_5_0 : GoodIn lw_tbl [Cond.fieldLink RX2 15 "FirstWords$Sheets" "laneOf" "[I", Cond.classLink RX2 18 "[[I", Cond.fieldLink RX2 20 "FirstWords$Sheets" "cells" "[[I", Cond.methodLink RLw 98 yL_told] := goodIn_p [Cond.fieldLink RX2 15 "FirstWords$Sheets" "laneOf" "[I", Cond.classLink RX2 18 "[[I", Cond.fieldLink RX2 20 "FirstWords$Sheets" "cells" "[[I", Cond.methodLink RLw 98 yL_told] [] (by decide +kernel) (by decide +kernel)
set_option maxRecDepth 20000 in
theorem wsL_in_5_1 : GoodIn lw_tbl [Cond.static yL_told, Cond.initialized RLw, Cond.code yL_told cL_told 16 (some .boolean), Cond.arrayClass .long] := goodIn_p [Cond.static yL_told, Cond.initialized RLw, Cond.code yL_told cL_told 16 (some .boolean), Cond.arrayClass .long] [562] rfl (by decide +kernel)
set_option maxRecDepth 20000 in
theorem wsL_in_5_2 : GoodIn lw_tbl [Cond.constantLong RLw 36 (499967946343), Cond.constantLong RLw 45 (469852319347), Cond.constantLong RLw 47 (544108404), Cond.constantLong RLw 49 (2003792484)] := goodIn_p [Cond.constantLong RLw 36 (499967946343), Cond.constantLong RLw 45 (469852319347), Cond.constantLong RLw 47 (544108404), Cond.constantLong RLw 49 (2003792484)] [] (by decide +kernel) (by decide +kernel)
set_option maxRecDepth 20000 in
theorem wsL_in_5_3 : GoodIn lw_tbl [Cond.constantLong RLw 54 (482854660462), Cond.constantLong RLw 56 (1818325876), Cond.constantLong RLw 58 (27973166649734508), Cond.constantLong RLw 60 (482956244324)] := goodIn_p [Cond.constantLong RLw 54 (482854660462), Cond.constantLong RLw 56 (1818325876), Cond.constantLong RLw 58 (27973166649734508), Cond.constantLong RLw 60 (482956244324)] [] (by decide +kernel) (by decide +kernel)
set_option maxRecDepth 20000 in
theorem wsL_in_5_4 : GoodIn lw_tbl [Cond.constantLong RLw 62 (9116499217113957), Cond.constantLong RLw 64 (9136316380441445), Cond.constantLong RLw 66 (35624159638131), Cond.constantLong RLw 68 (139374978419)] := goodIn_p [Cond.constantLong RLw 62 (9116499217113957), Cond.constantLong RLw 64 (9136316380441445), Cond.constantLong RLw 66 (35624159638131), Cond.constantLong RLw 68 (139374978419)] [] (by decide +kernel) (by decide +kernel)
set_option maxRecDepth 20000 in
theorem wsL_in_5_5 : GoodIn lw_tbl [Cond.methodLink RLw 28 yL_cell, Cond.static yL_cell, Cond.code yL_cell cL_cell 2 (some .int), Cond.constant RLw 7 (15485863)] := goodIn_p [Cond.methodLink RLw 28 yL_cell, Cond.static yL_cell, Cond.code yL_cell cL_cell 2 (some .int), Cond.constant RLw 7 (15485863)] [550] (by decide +kernel) (by decide +kernel)
theorem wsL_in_5 : GoodIn lw_tbl wsL_law_r5 := (goodIn_app wsL_in_5_0 (goodIn_app wsL_in_5_1 (goodIn_app wsL_in_5_2 (goodIn_app wsL_in_5_3 (goodIn_app wsL_in_5_4 wsL_in_5_5)))))
set_option maxRecDepth 20000 in
theorem wsL_in_6_0 : GoodIn lw_tbl [Cond.constant RLw 8 (32452843), Cond.methodLink RLw 32 yL_low, Cond.static yL_low, Cond.code yL_low cL_low 2 (some .int)] := goodIn_p [Cond.constant RLw 8 (32452843), Cond.methodLink RLw 32 yL_low, Cond.static yL_low, Cond.code yL_low cL_low 2 (some .int)] [555] (by decide +kernel) (by decide +kernel)
set_option maxRecDepth 20000 in
theorem wsL_in_6_1 : GoodIn lw_tbl [Cond.constant RLw 9 (2147483647), Cond.methodLink RLw 38 yL_word, Cond.static yL_word, Cond.code yL_word cL_word 6 none] := goodIn_p [Cond.constant RLw 9 (2147483647), Cond.methodLink RLw 38 yL_word, Cond.static yL_word, Cond.code yL_word cL_word 6 none] [566] (by decide +kernel) (by decide +kernel)
set_option maxRecDepth 20000 in
theorem wsL_in_6_2 : GoodIn lw_tbl [Cond.methodLink RLw 18 yL_put, Cond.static yL_put, Cond.code yL_put cL_put 3 none, Cond.constantLong RLw 10 (8)] := goodIn_p [Cond.methodLink RLw 18 yL_put, Cond.static yL_put, Cond.code yL_put cL_put 3 none, Cond.constantLong RLw 10 (8)] [569] (by decide +kernel) (by decide +kernel)
set_option maxRecDepth 20000 in
theorem wsL_in_6_3 : GoodIn lw_tbl [Cond.methodLink RLw 12 yX6_feed, Cond.instanceMethod yX6_feed, Cond.selects RX6 yX6_feed yX6_feed, Cond.code yX6_feed cX6_feed 4 (some .int)] := goodIn_p [Cond.methodLink RLw 12 yX6_feed, Cond.instanceMethod yX6_feed, Cond.selects RX6 yX6_feed yX6_feed, Cond.code yX6_feed cX6_feed 4 (some .int)] [574] (by decide +kernel) (by decide +kernel)
set_option maxRecDepth 20000 in
theorem wsL_in_6_4 : GoodIn lw_tbl [Cond.fieldLink RX6 61 "FirstWords$Tape" "length" "I", Cond.methodLink RX6 65 yX3_put, Cond.instanceMethod yX3_put, Cond.selects RX3 yX3_put yX3_put] := goodIn_p [Cond.fieldLink RX6 61 "FirstWords$Tape" "length" "I", Cond.methodLink RX6 65 yX3_put, Cond.instanceMethod yX3_put, Cond.selects RX3 yX3_put yX3_put] [] (by decide +kernel) (by decide +kernel)
set_option maxRecDepth 20000 in
theorem wsL_in_6_5 : GoodIn lw_tbl [Cond.code yX3_put cX3_put 2 none, Cond.fieldLink RX3 15 "FirstWords$Tape" "length" "I", Cond.methodLink RLw 42 yL_letters, Cond.static yL_letters] := goodIn_p [Cond.code yX3_put cX3_put 2 none, Cond.fieldLink RX3 15 "FirstWords$Tape" "length" "I", Cond.methodLink RLw 42 yL_letters, Cond.static yL_letters] [578] (by decide +kernel) (by decide +kernel)
theorem wsL_in_6 : GoodIn lw_tbl wsL_law_r6 := (goodIn_app wsL_in_6_0 (goodIn_app wsL_in_6_1 (goodIn_app wsL_in_6_2 (goodIn_app wsL_in_6_3 (goodIn_app wsL_in_6_4 wsL_in_6_5)))))
set_option maxRecDepth 20000 in
theorem wsL_in_7_0 : GoodIn lw_tbl [Cond.code yL_letters cL_letters 4 none, Cond.methodLink RLw 51 yL_number, Cond.static yL_number, Cond.code yL_number cL_number 5 none] := goodIn_p [Cond.code yL_letters cL_letters 4 none, Cond.methodLink RLw 51 yL_number, Cond.static yL_number, Cond.code yL_number cL_number 5 none] [581, 587] (by decide +kernel) (by decide +kernel)
set_option maxRecDepth 20000 in
theorem wsL_in_7_1 : GoodIn lw_tbl [Cond.methodLink RLw 70 yL_ended, Cond.static yL_ended, Cond.code yL_ended cL_ended 3 (some .boolean), Cond.methodLink RLw 24 yX6_end] := goodIn_p [Cond.methodLink RLw 70 yL_ended, Cond.static yL_ended, Cond.code yL_ended cL_ended 3 (some .boolean), Cond.methodLink RLw 24 yX6_end] [598] (by decide +kernel) (by decide +kernel)
set_option maxRecDepth 20000 in
theorem wsL_in_7_2 : GoodIn lw_tbl [Cond.instanceMethod yX6_end, Cond.selects RX6 yX6_end yX6_end, Cond.code yX6_end cX6_end 3 (some .int), Cond.methodLink RLw 74 yX6_text] := goodIn_p [Cond.instanceMethod yX6_end, Cond.selects RX6 yX6_end yX6_end, Cond.code yX6_end cX6_end 3 (some .int), Cond.methodLink RLw 74 yX6_text] [602] (by decide +kernel) (by decide +kernel)
set_option maxRecDepth 20000 in
theorem wsL_in_7_3 : GoodIn lw_tbl [Cond.instanceMethod yX6_text, Cond.selects RX6 yX6_text yX6_text, Cond.code yX6_text cX6_text 4 (some .int), Cond.fieldLink RX6 73 "FirstWords$Tape" "place" "I"] := goodIn_p [Cond.instanceMethod yX6_text, Cond.selects RX6 yX6_text yX6_text, Cond.code yX6_text cX6_text 4 (some .int), Cond.fieldLink RX6 73 "FirstWords$Tape" "place" "I"] [606] (by decide +kernel) (by decide +kernel)
set_option maxRecDepth 20000 in
theorem wsL_in_7_4 : GoodIn lw_tbl [Cond.fieldLink RX6 76 "FirstWords$Scene" "isKept" "Z", Cond.fieldLink RX6 87 "FirstWords$Tape" "lines" "I", Cond.methodLink RX6 69 yX3_readInto, Cond.instanceMethod yX3_readInto] := goodIn_p [Cond.fieldLink RX6 76 "FirstWords$Scene" "isKept" "Z", Cond.fieldLink RX6 87 "FirstWords$Tape" "lines" "I", Cond.methodLink RX6 69 yX3_readInto, Cond.instanceMethod yX3_readInto] [] (by decide +kernel) (by decide +kernel)
set_option maxRecDepth 20000 in
theorem wsL_in_7_5 : GoodIn lw_tbl [Cond.selects RX3 yX3_readInto yX3_readInto, Cond.code yX3_readInto cX3_readInto 3 (some .boolean), Cond.fieldLink RX3 24 "FirstWords$Tape" "fault" "I", Cond.fieldLink RX3 27 "FirstWords$Tape" "place" "I"] := goodIn_p [Cond.selects RX3 yX3_readInto yX3_readInto, Cond.code yX3_readInto cX3_readInto 3 (some .boolean), Cond.fieldLink RX3 24 "FirstWords$Tape" "fault" "I", Cond.fieldLink RX3 27 "FirstWords$Tape" "place" "I"] [610] (by decide +kernel) (by decide +kernel)
theorem wsL_in_7 : GoodIn lw_tbl wsL_law_r7 := (goodIn_app wsL_in_7_0 (goodIn_app wsL_in_7_1 (goodIn_app wsL_in_7_2 (goodIn_app wsL_in_7_3 (goodIn_app wsL_in_7_4 wsL_in_7_5)))))
set_option maxRecDepth 20000 in
theorem wsL_in_8_0 : GoodIn lw_tbl [Cond.fieldLink RX3 30 "FirstWords$Tape" "lines" "I", Cond.fieldLink RX3 33 "FirstWords$Tape" "at" "I", Cond.fieldLink RX3 39 "FirstWords$Tape" "token" "I", Cond.methodLink RX3 19 yX4_empty] := goodIn_p [Cond.fieldLink RX3 30 "FirstWords$Tape" "lines" "I", Cond.fieldLink RX3 33 "FirstWords$Tape" "at" "I", Cond.fieldLink RX3 39 "FirstWords$Tape" "token" "I", Cond.methodLink RX3 19 yX4_empty] [] (by decide +kernel) (by decide +kernel)
set_option maxRecDepth 20000 in
theorem wsL_in_8_1 : GoodIn lw_tbl [Cond.instanceMethod yX4_empty, Cond.selects RX4 yX4_empty yX4_empty, Cond.code yX4_empty cX4_empty 1 none, Cond.fieldLink RX4 58 "FirstWords$Told" "things" "I"] := goodIn_p [Cond.instanceMethod yX4_empty, Cond.selects RX4 yX4_empty yX4_empty, Cond.code yX4_empty cX4_empty 1 none, Cond.fieldLink RX4 58 "FirstWords$Told" "things" "I"] [614] (by decide +kernel) (by decide +kernel)
set_option maxRecDepth 20000 in
theorem wsL_in_8_2 : GoodIn lw_tbl [Cond.fieldLink RX4 62 "FirstWords$Told" "meanings" "I", Cond.fieldLink RX4 65 "FirstWords$Told" "sounds" "I", Cond.fieldLink RX4 68 "FirstWords$Told" "kinds" "I", Cond.methodLink RX3 36 yX3_nextToken] := goodIn_p [Cond.fieldLink RX4 62 "FirstWords$Told" "meanings" "I", Cond.fieldLink RX4 65 "FirstWords$Told" "sounds" "I", Cond.fieldLink RX4 68 "FirstWords$Told" "kinds" "I", Cond.methodLink RX3 36 yX3_nextToken] [] (by decide +kernel) (by decide +kernel)
set_option maxRecDepth 20000 in
theorem wsL_in_8_3 : GoodIn lw_tbl [Cond.instanceMethod yX3_nextToken, Cond.selects RX3 yX3_nextToken yX3_nextToken, Cond.code yX3_nextToken cX3_nextToken 1 none, Cond.fieldLink RX3 49 "FirstWords$Tape" "start" "I"] := goodIn_p [Cond.instanceMethod yX3_nextToken, Cond.selects RX3 yX3_nextToken yX3_nextToken, Cond.code yX3_nextToken cX3_nextToken 1 none, Cond.fieldLink RX3 49 "FirstWords$Tape" "start" "I"] [618] (by decide +kernel) (by decide +kernel)
set_option maxRecDepth 20000 in
theorem wsL_in_8_4 : GoodIn lw_tbl [Cond.fieldLink RX3 59 "FirstWords$Tape" "stop" "I", Cond.methodLink RX3 52 yX3_byteAt, Cond.instanceMethod yX3_byteAt, Cond.selects RX3 yX3_byteAt yX3_byteAt] := goodIn_p [Cond.fieldLink RX3 59 "FirstWords$Tape" "stop" "I", Cond.methodLink RX3 52 yX3_byteAt, Cond.instanceMethod yX3_byteAt, Cond.selects RX3 yX3_byteAt yX3_byteAt] [] (by decide +kernel) (by decide +kernel)
set_option maxRecDepth 20000 in
theorem wsL_in_8_5 : GoodIn lw_tbl [Cond.code yX3_byteAt cX3_byteAt 2 (some .int), Cond.methodLink RX3 56 yX3_tokenAt, Cond.instanceMethod yX3_tokenAt, Cond.selects RX3 yX3_tokenAt yX3_tokenAt] := goodIn_p [Cond.code yX3_byteAt cX3_byteAt 2 (some .int), Cond.methodLink RX3 56 yX3_tokenAt, Cond.instanceMethod yX3_tokenAt, Cond.selects RX3 yX3_tokenAt yX3_tokenAt] [622] (by decide +kernel) (by decide +kernel)
theorem wsL_in_8 : GoodIn lw_tbl wsL_law_r8 := (goodIn_app wsL_in_8_0 (goodIn_app wsL_in_8_1 (goodIn_app wsL_in_8_2 (goodIn_app wsL_in_8_3 (goodIn_app wsL_in_8_4 wsL_in_8_5)))))
set_option maxRecDepth 20000 in
theorem wsL_in_9_0 : GoodIn lw_tbl [Cond.code yX3_tokenAt cX3_tokenAt 3 (some .int), Cond.methodLink RX3 62 yX3_blame, Cond.instanceMethod yX3_blame, Cond.selects RX3 yX3_blame yX3_blame] := goodIn_p [Cond.code yX3_tokenAt cX3_tokenAt 3 (some .int), Cond.methodLink RX3 62 yX3_blame, Cond.instanceMethod yX3_blame, Cond.selects RX3 yX3_blame yX3_blame] [626] (by decide +kernel) (by decide +kernel)
set_option maxRecDepth 20000 in
theorem wsL_in_9_1 : GoodIn lw_tbl [Cond.code yX3_blame cX3_blame 2 none, Cond.methodLink RX3 42 yX3_readLine, Cond.instanceMethod yX3_readLine, Cond.selects RX3 yX3_readLine yX3_readLine] := goodIn_p [Cond.code yX3_blame cX3_blame 2 none, Cond.methodLink RX3 42 yX3_readLine, Cond.instanceMethod yX3_readLine, Cond.selects RX3 yX3_readLine yX3_readLine] [630] (by decide +kernel) (by decide +kernel)
set_option maxRecDepth 20000 in
theorem wsL_in_9_2 : GoodIn lw_tbl [Cond.code yX3_readLine cX3_readLine 3 none, Cond.methodLink RX3 75 yX3_sortNamed, Cond.instanceMethod yX3_sortNamed, Cond.selects RX3 yX3_sortNamed yX3_sortNamed] := goodIn_p [Cond.code yX3_readLine cX3_readLine 3 none, Cond.methodLink RX3 75 yX3_sortNamed, Cond.instanceMethod yX3_sortNamed, Cond.selects RX3 yX3_sortNamed yX3_sortNamed] [634] (by decide +kernel) (by decide +kernel)
set_option maxRecDepth 20000 in
theorem wsL_in_9_3 : GoodIn lw_tbl [Cond.code yX3_sortNamed cX3_sortNamed 1 (some .int), Cond.methodLink RX3 80 yX3_isNamed, Cond.instanceMethod yX3_isNamed, Cond.selects RX3 yX3_isNamed yX3_isNamed] := goodIn_p [Cond.code yX3_sortNamed cX3_sortNamed 1 (some .int), Cond.methodLink RX3 80 yX3_isNamed, Cond.instanceMethod yX3_isNamed, Cond.selects RX3 yX3_isNamed yX3_isNamed] [638] (by decide +kernel) (by decide +kernel)
set_option maxRecDepth 20000 in
theorem wsL_in_9_4 : GoodIn lw_tbl [Cond.code yX3_isNamed cX3_isNamed 3 (some .boolean), Cond.methodLink RX3 66 yJ0_length_8abf5, Cond.instanceMethod yJ0_length_8abf5, Cond.selects RJ0 yJ0_length_8abf5 yJ0_length_8abf5] := goodIn_p [Cond.code yX3_isNamed cX3_isNamed 3 (some .boolean), Cond.methodLink RX3 66 yJ0_length_8abf5, Cond.instanceMethod yJ0_length_8abf5, Cond.selects RJ0 yJ0_length_8abf5 yJ0_length_8abf5] [643] (by decide +kernel) (by decide +kernel)
set_option maxRecDepth 20000 in
theorem wsL_in_9_5 : GoodIn lw_tbl [Cond.initialized RJ0, Cond.code yJ0_length_8abf5 cJ0_length_8abf5 1 (some .int), Cond.fieldLink RJ0 9 "java/lang/String" "value" "[B", Cond.methodLink RJ0 335 yJ0_coder_7d493] := goodIn_p [Cond.initialized RJ0, Cond.code yJ0_length_8abf5 cJ0_length_8abf5 1 (some .int), Cond.fieldLink RJ0 9 "java/lang/String" "value" "[B", Cond.methodLink RJ0 335 yJ0_coder_7d493] [647] (by decide +kernel) (by decide +kernel)
theorem wsL_in_9 : GoodIn lw_tbl wsL_law_r9 := (goodIn_app wsL_in_9_0 (goodIn_app wsL_in_9_1 (goodIn_app wsL_in_9_2 (goodIn_app wsL_in_9_3 (goodIn_app wsL_in_9_4 wsL_in_9_5)))))
set_option maxRecDepth 20000 in
theorem wsL_in_10_0 : GoodIn lw_tbl [Cond.instanceMethod yJ0_coder_7d493, Cond.selects RJ0 yJ0_coder_7d493 yJ0_coder_7d493, Cond.code yJ0_coder_7d493 cJ0_coder_7d493 1 (some .byte), Cond.fieldLink RJ0 38 "java/lang/String" "COMPACT_STRINGS" "Z"] := goodIn_p [Cond.instanceMethod yJ0_coder_7d493, Cond.selects RJ0 yJ0_coder_7d493 yJ0_coder_7d493, Cond.code yJ0_coder_7d493 cJ0_coder_7d493 1 (some .byte), Cond.fieldLink RJ0 38 "java/lang/String" "COMPACT_STRINGS" "Z"] [651] (by decide +kernel) (by decide +kernel)
set_option maxRecDepth 20000 in
theorem wsL_in_10_1 : GoodIn lw_tbl [Cond.fieldLink RJ0 15 "java/lang/String" "coder" "B", Cond.methodLink RX3 71 yJ0_charAt_5068e, Cond.instanceMethod yJ0_charAt_5068e, Cond.selects RJ0 yJ0_charAt_5068e yJ0_charAt_5068e] := goodIn_p [Cond.fieldLink RJ0 15 "java/lang/String" "coder" "B", Cond.methodLink RX3 71 yJ0_charAt_5068e, Cond.instanceMethod yJ0_charAt_5068e, Cond.selects RJ0 yJ0_charAt_5068e yJ0_charAt_5068e] [] (by decide +kernel) (by decide +kernel)
set_option maxRecDepth 20000 in
theorem wsL_in_10_2 : GoodIn lw_tbl [Cond.code yJ0_charAt_5068e cJ0_charAt_5068e 2 (some .char), Cond.methodLink RJ0 492 yJ0_isLatin1_aae02, Cond.instanceMethod yJ0_isLatin1_aae02, Cond.selects RJ0 yJ0_isLatin1_aae02 yJ0_isLatin1_aae02] := goodIn_p [Cond.code yJ0_charAt_5068e cJ0_charAt_5068e 2 (some .char), Cond.methodLink RJ0 492 yJ0_isLatin1_aae02, Cond.instanceMethod yJ0_isLatin1_aae02, Cond.selects RJ0 yJ0_isLatin1_aae02 yJ0_isLatin1_aae02] [657] (by decide +kernel) (by decide +kernel)
set_option maxRecDepth 20000 in
theorem wsL_in_10_3 : GoodIn lw_tbl [Cond.code yJ0_isLatin1_aae02 cJ0_isLatin1_aae02 1 (some .boolean), Cond.methodLink RJ0 495 yJ1_charAt_3b067, Cond.static yJ1_charAt_3b067, Cond.initialized RJ1] := goodIn_p [Cond.code yJ0_isLatin1_aae02 cJ0_isLatin1_aae02 1 (some .boolean), Cond.methodLink RJ0 495 yJ1_charAt_3b067, Cond.static yJ1_charAt_3b067, Cond.initialized RJ1] [661] (by decide +kernel) (by decide +kernel)
set_option maxRecDepth 20000 in
theorem wsL_in_10_4 : GoodIn lw_tbl [Cond.code yJ1_charAt_3b067 cJ1_charAt_3b067 2 (some .char), Cond.methodLink RJ1 9 yJ0_checkIndex_df160, Cond.static yJ0_checkIndex_df160, Cond.code yJ0_checkIndex_df160 cJ0_checkIndex_df160 2 none] := goodIn_p [Cond.code yJ1_charAt_3b067 cJ1_charAt_3b067 2 (some .char), Cond.methodLink RJ1 9 yJ0_checkIndex_df160, Cond.static yJ0_checkIndex_df160, Cond.code yJ0_checkIndex_df160 cJ0_checkIndex_df160 2 none] [664, 667] (by decide +kernel) (by decide +kernel)
set_option maxRecDepth 20000 in
theorem wsL_in_10_5 : GoodIn lw_tbl [Cond.fieldLink RJ0 1053 "jdk/internal/util/Preconditions" "SIOOBE_FORMATTER" "Ljava/util/function/BiFunction;", Cond.methodLink RJ0 1059 yJ3_checkIndex_8e157, Cond.static yJ3_checkIndex_8e157, Cond.initialized RJ3] := goodIn_p [Cond.fieldLink RJ0 1053 "jdk/internal/util/Preconditions" "SIOOBE_FORMATTER" "Ljava/util/function/BiFunction;", Cond.methodLink RJ0 1059 yJ3_checkIndex_8e157, Cond.static yJ3_checkIndex_8e157, Cond.initialized RJ3] [] (by decide +kernel) (by decide +kernel)
theorem wsL_in_10 : GoodIn lw_tbl wsL_law_r10 := (goodIn_app wsL_in_10_0 (goodIn_app wsL_in_10_1 (goodIn_app wsL_in_10_2 (goodIn_app wsL_in_10_3 (goodIn_app wsL_in_10_4 wsL_in_10_5)))))
set_option maxRecDepth 20000 in
theorem wsL_in_11_0 : GoodIn lw_tbl [Cond.code yJ3_checkIndex_8e157 cJ3_checkIndex_8e157 3 (some .int), Cond.methodLink RJ0 498 yJ2_charAt_3b067, Cond.static yJ2_charAt_3b067, Cond.initialized RJ2] := goodIn_p [Cond.code yJ3_checkIndex_8e157 cJ3_checkIndex_8e157 3 (some .int), Cond.methodLink RJ0 498 yJ2_charAt_3b067, Cond.static yJ2_charAt_3b067, Cond.initialized RJ2] [672] (by decide +kernel) (by decide +kernel)
set_option maxRecDepth 20000 in
theorem wsL_in_11_1 : GoodIn lw_tbl [Cond.code yJ2_charAt_3b067 cJ2_charAt_3b067 2 (some .char), Cond.methodLink RJ2 67 yJ2_checkIndex_2214a, Cond.static yJ2_checkIndex_2214a, Cond.code yJ2_checkIndex_2214a cJ2_checkIndex_2214a 2 none] := goodIn_p [Cond.code yJ2_charAt_3b067 cJ2_charAt_3b067 2 (some .char), Cond.methodLink RJ2 67 yJ2_checkIndex_2214a, Cond.static yJ2_checkIndex_2214a, Cond.code yJ2_checkIndex_2214a cJ2_checkIndex_2214a 2 none] [675, 678] (by decide +kernel) (by decide +kernel)
set_option maxRecDepth 20000 in
theorem wsL_in_11_2 : GoodIn lw_tbl [Cond.methodLink RJ2 48 yJ2_length_9d52b, Cond.static yJ2_length_9d52b, Cond.code yJ2_length_9d52b cJ2_length_9d52b 1 (some .int), Cond.methodLink RJ2 414 yJ0_checkIndex_df160] := goodIn_p [Cond.methodLink RJ2 48 yJ2_length_9d52b, Cond.static yJ2_length_9d52b, Cond.code yJ2_length_9d52b cJ2_length_9d52b 1 (some .int), Cond.methodLink RJ2 414 yJ0_checkIndex_df160] [681] (by decide +kernel) (by decide +kernel)
set_option maxRecDepth 20000 in
theorem wsL_in_11_3 : GoodIn lw_tbl [Cond.methodLink RJ2 71 yJ2_getChar_3b067, Cond.static yJ2_getChar_3b067, Cond.code yJ2_getChar_3b067 cJ2_getChar_3b067 2 (some .char), Cond.fieldLink RJ2 44 "java/lang/StringUTF16" "$assertionsDisabled" "Z"] := goodIn_p [Cond.methodLink RJ2 71 yJ2_getChar_3b067, Cond.static yJ2_getChar_3b067, Cond.code yJ2_getChar_3b067 cJ2_getChar_3b067 2 (some .char), Cond.fieldLink RJ2 44 "java/lang/StringUTF16" "$assertionsDisabled" "Z"] [685] (by decide +kernel) (by decide +kernel)
set_option maxRecDepth 20000 in
theorem wsL_in_11_4 : GoodIn lw_tbl [Cond.fieldLink RJ2 59 "java/lang/StringUTF16" "HI_BYTE_SHIFT" "I", Cond.fieldLink RJ2 63 "java/lang/StringUTF16" "LO_BYTE_SHIFT" "I", Cond.methodLink RX3 84 yX3_readThing, Cond.instanceMethod yX3_readThing] := goodIn_p [Cond.fieldLink RJ2 59 "java/lang/StringUTF16" "HI_BYTE_SHIFT" "I", Cond.fieldLink RJ2 63 "java/lang/StringUTF16" "LO_BYTE_SHIFT" "I", Cond.methodLink RX3 84 yX3_readThing, Cond.instanceMethod yX3_readThing] [] (by decide +kernel) (by decide +kernel)
set_option maxRecDepth 20000 in
theorem wsL_in_11_5 : GoodIn lw_tbl [Cond.selects RX3 yX3_readThing yX3_readThing, Cond.code yX3_readThing cX3_readThing 2 none, Cond.fieldLink RX3 109 "FirstWords$Told" "things" "I", Cond.methodLink RX3 112 yX3_takeLetters] := goodIn_p [Cond.selects RX3 yX3_readThing yX3_readThing, Cond.code yX3_readThing cX3_readThing 2 none, Cond.fieldLink RX3 109 "FirstWords$Told" "things" "I", Cond.methodLink RX3 112 yX3_takeLetters] [699] (by decide +kernel) (by decide +kernel)
theorem wsL_in_11 : GoodIn lw_tbl wsL_law_r11 := (goodIn_app wsL_in_11_0 (goodIn_app wsL_in_11_1 (goodIn_app wsL_in_11_2 (goodIn_app wsL_in_11_3 (goodIn_app wsL_in_11_4 wsL_in_11_5)))))
set_option maxRecDepth 20000 in
theorem wsL_in_12_0 : GoodIn lw_tbl [Cond.instanceMethod yX3_takeLetters, Cond.selects RX3 yX3_takeLetters yX3_takeLetters, Cond.code yX3_takeLetters cX3_takeLetters 5 (some .int), Cond.static yX6_isIn] := goodIn_p [Cond.instanceMethod yX3_takeLetters, Cond.selects RX3 yX3_takeLetters yX3_takeLetters, Cond.code yX3_takeLetters cX3_takeLetters 5 (some .int), Cond.static yX6_isIn] [703] (by decide +kernel) (by decide +kernel)
set_option maxRecDepth 20000 in
theorem wsL_in_12_1 : GoodIn lw_tbl [Cond.code yX6_isIn cX6_isIn 2 (some .boolean), Cond.methodLink RX3 115 yX4_addThing, Cond.instanceMethod yX4_addThing, Cond.selects RX4 yX4_addThing yX4_addThing] := goodIn_p [Cond.code yX6_isIn cX6_isIn 2 (some .boolean), Cond.methodLink RX3 115 yX4_addThing, Cond.instanceMethod yX4_addThing, Cond.selects RX4 yX4_addThing yX4_addThing] [354] (by decide +kernel) (by decide +kernel)
set_option maxRecDepth 20000 in
theorem wsL_in_12_2 : GoodIn lw_tbl [Cond.code yX4_addThing cX4_addThing 2 none, Cond.methodLink RX3 89 yX3_readMeaning, Cond.instanceMethod yX3_readMeaning, Cond.selects RX3 yX3_readMeaning yX3_readMeaning] := goodIn_p [Cond.code yX4_addThing cX4_addThing 2 none, Cond.methodLink RX3 89 yX3_readMeaning, Cond.instanceMethod yX3_readMeaning, Cond.selects RX3 yX3_readMeaning yX3_readMeaning] [708] (by decide +kernel) (by decide +kernel)
set_option maxRecDepth 20000 in
theorem wsL_in_12_3 : GoodIn lw_tbl [Cond.code yX3_readMeaning cX3_readMeaning 4 none, Cond.fieldLink RX3 118 "FirstWords$Told" "meanings" "I", Cond.methodLink RX3 123 yX4_addMeaning, Cond.instanceMethod yX4_addMeaning] := goodIn_p [Cond.code yX3_readMeaning cX3_readMeaning 4 none, Cond.fieldLink RX3 118 "FirstWords$Told" "meanings" "I", Cond.methodLink RX3 123 yX4_addMeaning, Cond.instanceMethod yX4_addMeaning] [713] (by decide +kernel) (by decide +kernel)
set_option maxRecDepth 20000 in
theorem wsL_in_12_4 : GoodIn lw_tbl [Cond.selects RX4 yX4_addMeaning yX4_addMeaning, Cond.code yX4_addMeaning cX4_addMeaning 3 none, Cond.methodLink RX4 71 yJ6_bitCount_0f7a4, Cond.static yJ6_bitCount_0f7a4] := goodIn_p [Cond.selects RX4 yX4_addMeaning yX4_addMeaning, Cond.code yX4_addMeaning cX4_addMeaning 3 none, Cond.methodLink RX4 71 yJ6_bitCount_0f7a4, Cond.static yJ6_bitCount_0f7a4] [718] (by decide +kernel) (by decide +kernel)
set_option maxRecDepth 20000 in
theorem wsL_in_12_5 : GoodIn lw_tbl [Cond.initialized RJ6, Cond.code yJ6_bitCount_0f7a4 cJ6_bitCount_0f7a4 1 (some .int), Cond.constant RJ6 265 (1431655765), Cond.constant RJ6 266 (858993459)] := goodIn_p [Cond.initialized RJ6, Cond.code yJ6_bitCount_0f7a4 cJ6_bitCount_0f7a4 1 (some .int), Cond.constant RJ6 265 (1431655765), Cond.constant RJ6 266 (858993459)] [721] (by decide +kernel) (by decide +kernel)
theorem wsL_in_12 : GoodIn lw_tbl wsL_law_r12 := (goodIn_app wsL_in_12_0 (goodIn_app wsL_in_12_1 (goodIn_app wsL_in_12_2 (goodIn_app wsL_in_12_3 (goodIn_app wsL_in_12_4 wsL_in_12_5)))))
set_option maxRecDepth 20000 in
theorem wsL_in_13_0 : GoodIn lw_tbl [Cond.constant RJ6 267 (252645135), Cond.methodLink RX3 94 yX3_readWord, Cond.instanceMethod yX3_readWord, Cond.selects RX3 yX3_readWord yX3_readWord] := goodIn_p [Cond.constant RJ6 267 (252645135), Cond.methodLink RX3 94 yX3_readWord, Cond.instanceMethod yX3_readWord, Cond.selects RX3 yX3_readWord yX3_readWord] [] (by decide +kernel) (by decide +kernel)
set_option maxRecDepth 20000 in
theorem wsL_in_13_1 : GoodIn lw_tbl [Cond.code yX3_readWord cX3_readWord 2 none, Cond.fieldLink RX3 127 "FirstWords$Told" "sounds" "I", Cond.methodLink RX3 130 yX3_takeNumber, Cond.instanceMethod yX3_takeNumber] := goodIn_p [Cond.code yX3_readWord cX3_readWord 2 none, Cond.fieldLink RX3 127 "FirstWords$Told" "sounds" "I", Cond.methodLink RX3 130 yX3_takeNumber, Cond.instanceMethod yX3_takeNumber] [729] (by decide +kernel) (by decide +kernel)
set_option maxRecDepth 20000 in
theorem wsL_in_13_2 : GoodIn lw_tbl [Cond.selects RX3 yX3_takeNumber yX3_takeNumber, Cond.code yX3_takeNumber cX3_takeNumber 4 (some .int), Cond.methodLink RX3 133 yX4_addSound, Cond.instanceMethod yX4_addSound] := goodIn_p [Cond.selects RX3 yX3_takeNumber yX3_takeNumber, Cond.code yX3_takeNumber cX3_takeNumber 4 (some .int), Cond.methodLink RX3 133 yX4_addSound, Cond.instanceMethod yX4_addSound] [733] (by decide +kernel) (by decide +kernel)
set_option maxRecDepth 20000 in
theorem wsL_in_13_3 : GoodIn lw_tbl [Cond.selects RX4 yX4_addSound yX4_addSound, Cond.code yX4_addSound cX4_addSound 2 none, Cond.methodLink RX3 97 yX3_readKind, Cond.instanceMethod yX3_readKind] := goodIn_p [Cond.selects RX4 yX4_addSound yX4_addSound, Cond.code yX4_addSound cX4_addSound 2 none, Cond.methodLink RX3 97 yX3_readKind, Cond.instanceMethod yX3_readKind] [737] (by decide +kernel) (by decide +kernel)
set_option maxRecDepth 20000 in
theorem wsL_in_13_4 : GoodIn lw_tbl [Cond.selects RX3 yX3_readKind yX3_readKind, Cond.code yX3_readKind cX3_readKind 7 none, Cond.fieldLink RX3 136 "FirstWords$Told" "kinds" "I", Cond.fieldLink RX3 149 "FirstWords$Told" "sees" "[I"] := goodIn_p [Cond.selects RX3 yX3_readKind yX3_readKind, Cond.code yX3_readKind cX3_readKind 7 none, Cond.fieldLink RX3 136 "FirstWords$Told" "kinds" "I", Cond.fieldLink RX3 149 "FirstWords$Told" "sees" "[I"] [741] (by decide +kernel) (by decide +kernel)
set_option maxRecDepth 20000 in
theorem wsL_in_13_5 : GoodIn lw_tbl [Cond.fieldLink RX3 152 "FirstWords$Told" "fears" "[I", Cond.fieldLink RX3 155 "FirstWords$Told" "chance" "[I", Cond.fieldLink RX3 158 "FirstWords$Told" "unlike" "[Z", Cond.methodLink RX3 139 yX4_addKind] := goodIn_p [Cond.fieldLink RX3 152 "FirstWords$Told" "fears" "[I", Cond.fieldLink RX3 155 "FirstWords$Told" "chance" "[I", Cond.fieldLink RX3 158 "FirstWords$Told" "unlike" "[Z", Cond.methodLink RX3 139 yX4_addKind] [] (by decide +kernel) (by decide +kernel)
theorem wsL_in_13 : GoodIn lw_tbl wsL_law_r13 := (goodIn_app wsL_in_13_0 (goodIn_app wsL_in_13_1 (goodIn_app wsL_in_13_2 (goodIn_app wsL_in_13_3 (goodIn_app wsL_in_13_4 wsL_in_13_5)))))
set_option maxRecDepth 20000 in
theorem wsL_in_14_0 : GoodIn lw_tbl [Cond.instanceMethod yX4_addKind, Cond.selects RX4 yX4_addKind yX4_addKind, Cond.code yX4_addKind cX4_addKind 2 none, Cond.methodLink RX3 142 yX3_withNamed] := goodIn_p [Cond.instanceMethod yX4_addKind, Cond.selects RX4 yX4_addKind yX4_addKind, Cond.code yX4_addKind cX4_addKind 2 none, Cond.methodLink RX3 142 yX3_withNamed] [745] (by decide +kernel) (by decide +kernel)
set_option maxRecDepth 20000 in
theorem wsL_in_14_1 : GoodIn lw_tbl [Cond.instanceMethod yX3_withNamed, Cond.selects RX3 yX3_withNamed yX3_withNamed, Cond.code yX3_withNamed cX3_withNamed 1 (some .int), Cond.methodLink RX3 46 yX4_settle] := goodIn_p [Cond.instanceMethod yX3_withNamed, Cond.selects RX3 yX3_withNamed yX3_withNamed, Cond.code yX3_withNamed cX3_withNamed 1 (some .int), Cond.methodLink RX3 46 yX4_settle] [749] (by decide +kernel) (by decide +kernel)
set_option maxRecDepth 20000 in
theorem wsL_in_14_2 : GoodIn lw_tbl [Cond.instanceMethod yX4_settle, Cond.selects RX4 yX4_settle yX4_settle, Cond.code yX4_settle cX4_settle 3 none, Cond.methodLink RX4 77 yX4_settleMeanings] := goodIn_p [Cond.instanceMethod yX4_settle, Cond.selects RX4 yX4_settle yX4_settle, Cond.code yX4_settle cX4_settle 3 none, Cond.methodLink RX4 77 yX4_settleMeanings] [757] (by decide +kernel) (by decide +kernel)
set_option maxRecDepth 20000 in
theorem wsL_in_14_3 : GoodIn lw_tbl [Cond.instanceMethod yX4_settleMeanings, Cond.selects RX4 yX4_settleMeanings yX4_settleMeanings, Cond.code yX4_settleMeanings cX4_settleMeanings 4 none, Cond.methodLink RX6 80 yX1_empty] := goodIn_p [Cond.instanceMethod yX4_settleMeanings, Cond.selects RX4 yX4_settleMeanings yX4_settleMeanings, Cond.code yX4_settleMeanings cX4_settleMeanings 4 none, Cond.methodLink RX6 80 yX1_empty] [761] (by decide +kernel) (by decide +kernel)
set_option maxRecDepth 20000 in
theorem wsL_in_14_4 : GoodIn lw_tbl [Cond.instanceMethod yX1_empty, Cond.selects RX1 yX1_empty yX1_empty, Cond.code yX1_empty cX1_empty 2 none, Cond.fieldLink RX1 28 "FirstWords$Scene" "showings" "I"] := goodIn_p [Cond.instanceMethod yX1_empty, Cond.selects RX1 yX1_empty yX1_empty, Cond.code yX1_empty cX1_empty 2 none, Cond.fieldLink RX1 28 "FirstWords$Scene" "showings" "I"] [765] (by decide +kernel) (by decide +kernel)
set_option maxRecDepth 20000 in
theorem wsL_in_14_5 : GoodIn lw_tbl [Cond.fieldLink RX1 32 "FirstWords$Scene" "theirs" "I", Cond.fieldLink RX1 41 "FirstWords$Scene" "left" "I", Cond.methodLink RX1 35 yX4_allKinds, Cond.instanceMethod yX4_allKinds] := goodIn_p [Cond.fieldLink RX1 32 "FirstWords$Scene" "theirs" "I", Cond.fieldLink RX1 41 "FirstWords$Scene" "left" "I", Cond.methodLink RX1 35 yX4_allKinds, Cond.instanceMethod yX4_allKinds] [] (by decide +kernel) (by decide +kernel)
theorem wsL_in_14 : GoodIn lw_tbl wsL_law_r14 := (goodIn_app wsL_in_14_0 (goodIn_app wsL_in_14_1 (goodIn_app wsL_in_14_2 (goodIn_app wsL_in_14_3 (goodIn_app wsL_in_14_4 wsL_in_14_5)))))
set_option maxRecDepth 20000 in
theorem wsL_in_15_0 : GoodIn lw_tbl [Cond.selects RX4 yX4_allKinds yX4_allKinds, Cond.code yX4_allKinds cX4_allKinds 1 (some .int), Cond.methodLink RX6 84 yX0_blank, Cond.instanceMethod yX0_blank] := goodIn_p [Cond.selects RX4 yX4_allKinds yX4_allKinds, Cond.code yX4_allKinds cX4_allKinds 1 (some .int), Cond.methodLink RX6 84 yX0_blank, Cond.instanceMethod yX0_blank] [382] (by decide +kernel) (by decide +kernel)
set_option maxRecDepth 20000 in
theorem wsL_in_15_1 : GoodIn lw_tbl [Cond.selects RX0 yX0_blank yX0_blank, Cond.code yX0_blank cX0_blank 3 none, Cond.fieldLink RX0 27 "FirstWords$Minds" "seen" "I", Cond.methodLink RX0 31 yX4_allMeanings] := goodIn_p [Cond.selects RX0 yX0_blank yX0_blank, Cond.code yX0_blank cX0_blank 3 none, Cond.fieldLink RX0 27 "FirstWords$Minds" "seen" "I", Cond.methodLink RX0 31 yX4_allMeanings] [449] (by decide +kernel) (by decide +kernel)
set_option maxRecDepth 20000 in
theorem wsL_in_15_2 : GoodIn lw_tbl [Cond.instanceMethod yX4_allMeanings, Cond.selects RX4 yX4_allMeanings yX4_allMeanings, Cond.code yX4_allMeanings cX4_allMeanings 1 (some .int), Cond.methodLink RLw 102 yX6_thing] := goodIn_p [Cond.instanceMethod yX4_allMeanings, Cond.selects RX4 yX4_allMeanings yX4_allMeanings, Cond.code yX4_allMeanings cX4_allMeanings 1 (some .int), Cond.methodLink RLw 102 yX6_thing] [397] (by decide +kernel) (by decide +kernel)
set_option maxRecDepth 20000 in
theorem wsL_in_15_3 : GoodIn lw_tbl [Cond.instanceMethod yX6_thing, Cond.selects RX6 yX6_thing yX6_thing, Cond.code yX6_thing cX6_thing 2 (some .int), Cond.fieldLink RX6 97 "FirstWords$Told" "marks" "[I"] := goodIn_p [Cond.instanceMethod yX6_thing, Cond.selects RX6 yX6_thing yX6_thing, Cond.code yX6_thing cX6_thing 2 (some .int), Cond.fieldLink RX6 97 "FirstWords$Told" "marks" "[I"] [335] (by decide +kernel) (by decide +kernel)
set_option maxRecDepth 20000 in
theorem wsL_in_15_4 : GoodIn lw_tbl [Cond.methodLink RX6 93 yX4_hasThing, Cond.instanceMethod yX4_hasThing, Cond.selects RX4 yX4_hasThing yX4_hasThing, Cond.code yX4_hasThing cX4_hasThing 2 (some .boolean)] := goodIn_p [Cond.methodLink RX6 93 yX4_hasThing, Cond.instanceMethod yX4_hasThing, Cond.selects RX4 yX4_hasThing yX4_hasThing, Cond.code yX4_hasThing cX4_hasThing 2 (some .boolean)] [339] (by decide +kernel) (by decide +kernel)
set_option maxRecDepth 20000 in
theorem wsL_in_15_5 : GoodIn lw_tbl [Cond.methodLink RLw 105 yX6_meaning, Cond.instanceMethod yX6_meaning, Cond.selects RX6 yX6_meaning yX6_meaning, Cond.code yX6_meaning cX6_meaning 3 (some .int)] := goodIn_p [Cond.methodLink RLw 105 yX6_meaning, Cond.instanceMethod yX6_meaning, Cond.selects RX6 yX6_meaning yX6_meaning, Cond.code yX6_meaning cX6_meaning 3 (some .int)] [343] (by decide +kernel) (by decide +kernel)
theorem wsL_in_15 : GoodIn lw_tbl wsL_law_r15 := (goodIn_app wsL_in_15_0 (goodIn_app wsL_in_15_1 (goodIn_app wsL_in_15_2 (goodIn_app wsL_in_15_3 (goodIn_app wsL_in_15_4 wsL_in_15_5)))))
set_option maxRecDepth 20000 in
theorem wsL_in_16_0 : GoodIn lw_tbl [Cond.fieldLink RX6 104 "FirstWords$Told" "has" "[I", Cond.fieldLink RX6 107 "FirstWords$Told" "hasNot" "[I", Cond.fieldLink RX6 110 "FirstWords$Told" "asks" "[I", Cond.fieldLink RX6 113 "FirstWords$Told" "are" "[I"] := goodIn_p [Cond.fieldLink RX6 104 "FirstWords$Told" "has" "[I", Cond.fieldLink RX6 107 "FirstWords$Told" "hasNot" "[I", Cond.fieldLink RX6 110 "FirstWords$Told" "asks" "[I", Cond.fieldLink RX6 113 "FirstWords$Told" "are" "[I"] [] (by decide +kernel) (by decide +kernel)
set_option maxRecDepth 20000 in
theorem wsL_in_16_1 : GoodIn lw_tbl [Cond.methodLink RX6 101 yX4_hasMeaning, Cond.instanceMethod yX4_hasMeaning, Cond.selects RX4 yX4_hasMeaning yX4_hasMeaning, Cond.code yX4_hasMeaning cX4_hasMeaning 2 (some .boolean)] := goodIn_p [Cond.methodLink RX6 101 yX4_hasMeaning, Cond.instanceMethod yX4_hasMeaning, Cond.selects RX4 yX4_hasMeaning yX4_hasMeaning, Cond.code yX4_hasMeaning cX4_hasMeaning 2 (some .boolean)] [347] (by decide +kernel) (by decide +kernel)
set_option maxRecDepth 20000 in
theorem wsL_in_16_2 : GoodIn lw_tbl [Cond.methodLink RX6 116 yX4_kindsThatCan, Cond.instanceMethod yX4_kindsThatCan, Cond.selects RX4 yX4_kindsThatCan yX4_kindsThatCan, Cond.code yX4_kindsThatCan cX4_kindsThatCan 4 (some .int)] := goodIn_p [Cond.methodLink RX6 116 yX4_kindsThatCan, Cond.instanceMethod yX4_kindsThatCan, Cond.selects RX4 yX4_kindsThatCan yX4_kindsThatCan, Cond.code yX4_kindsThatCan cX4_kindsThatCan 4 (some .int)] [351] (by decide +kernel) (by decide +kernel)
set_option maxRecDepth 20000 in
theorem wsL_in_16_3 : GoodIn lw_tbl [Cond.methodLink RLw 78 yL_ones, Cond.static yL_ones, Cond.code yL_ones cL_ones 3 (some .int), Cond.methodLink RLw 108 yX6_kind] := goodIn_p [Cond.methodLink RLw 78 yL_ones, Cond.static yL_ones, Cond.code yL_ones cL_ones 3 (some .int), Cond.methodLink RLw 108 yX6_kind] [559] (by decide +kernel) (by decide +kernel)
set_option maxRecDepth 20000 in
theorem wsL_in_16_4 : GoodIn lw_tbl [Cond.instanceMethod yX6_kind, Cond.selects RX6 yX6_kind yX6_kind, Cond.code yX6_kind cX6_kind 3 (some .int), Cond.fieldLink RX6 129 "FirstWords$Told" "sort" "[I"] := goodIn_p [Cond.instanceMethod yX6_kind, Cond.selects RX6 yX6_kind yX6_kind, Cond.code yX6_kind cX6_kind 3 (some .int), Cond.fieldLink RX6 129 "FirstWords$Told" "sort" "[I"] [366] (by decide +kernel) (by decide +kernel)
set_option maxRecDepth 20000 in
theorem wsL_in_16_5 : GoodIn lw_tbl [Cond.fieldLink RX6 132 "FirstWords$Told" "sees" "[I", Cond.fieldLink RX6 135 "FirstWords$Told" "fears" "[I", Cond.fieldLink RX6 138 "FirstWords$Told" "unlike" "[Z", Cond.fieldLink RX6 142 "FirstWords$Told" "chance" "[I"] := goodIn_p [Cond.fieldLink RX6 132 "FirstWords$Told" "sees" "[I", Cond.fieldLink RX6 135 "FirstWords$Told" "fears" "[I", Cond.fieldLink RX6 138 "FirstWords$Told" "unlike" "[Z", Cond.fieldLink RX6 142 "FirstWords$Told" "chance" "[I"] [] (by decide +kernel) (by decide +kernel)
theorem wsL_in_16 : GoodIn lw_tbl wsL_law_r16 := (goodIn_app wsL_in_16_0 (goodIn_app wsL_in_16_1 (goodIn_app wsL_in_16_2 (goodIn_app wsL_in_16_3 (goodIn_app wsL_in_16_4 wsL_in_16_5)))))
set_option maxRecDepth 20000 in
theorem wsL_in_17_0 : GoodIn lw_tbl [Cond.fieldLink RX6 145 "FirstWords$Told" "can" "[I", Cond.methodLink RX6 126 yX4_hasKind, Cond.instanceMethod yX4_hasKind, Cond.selects RX4 yX4_hasKind yX4_hasKind] := goodIn_p [Cond.fieldLink RX6 145 "FirstWords$Told" "can" "[I", Cond.methodLink RX6 126 yX4_hasKind, Cond.instanceMethod yX4_hasKind, Cond.selects RX4 yX4_hasKind yX4_hasKind] [] (by decide +kernel) (by decide +kernel)
set_option maxRecDepth 20000 in
theorem wsL_in_17_1 : GoodIn lw_tbl [Cond.code yX4_hasKind cX4_hasKind 2 (some .boolean), Cond.methodLink RLw 111 yX6_teach, Cond.instanceMethod yX6_teach, Cond.selects RX6 yX6_teach yX6_teach] := goodIn_p [Cond.code yX4_hasKind cX4_hasKind 2 (some .boolean), Cond.methodLink RLw 111 yX6_teach, Cond.instanceMethod yX6_teach, Cond.selects RX6 yX6_teach yX6_teach] [370] (by decide +kernel) (by decide +kernel)
set_option maxRecDepth 20000 in
theorem wsL_in_17_2 : GoodIn lw_tbl [Cond.code yX6_teach cX6_teach 3 (some .int), Cond.methodLink RX6 155 yX4_isTarget, Cond.instanceMethod yX4_isTarget, Cond.selects RX4 yX4_isTarget yX4_isTarget] := goodIn_p [Cond.code yX6_teach cX6_teach 3 (some .int), Cond.methodLink RX6 155 yX4_isTarget, Cond.instanceMethod yX4_isTarget, Cond.selects RX4 yX4_isTarget yX4_isTarget] [426] (by decide +kernel) (by decide +kernel)
set_option maxRecDepth 20000 in
theorem wsL_in_17_3 : GoodIn lw_tbl [Cond.code yX4_isTarget cX4_isTarget 3 (some .boolean), Cond.methodLink RX4 98 yX4_targetThings, Cond.instanceMethod yX4_targetThings, Cond.selects RX4 yX4_targetThings yX4_targetThings] := goodIn_p [Cond.code yX4_isTarget cX4_isTarget 3 (some .boolean), Cond.methodLink RX4 98 yX4_targetThings, Cond.instanceMethod yX4_targetThings, Cond.selects RX4 yX4_targetThings yX4_targetThings] [430] (by decide +kernel) (by decide +kernel)
set_option maxRecDepth 20000 in
theorem wsL_in_17_4 : GoodIn lw_tbl [Cond.code yX4_targetThings cX4_targetThings 2 (some .int), Cond.methodLink RX4 92 yX4_hasSound, Cond.instanceMethod yX4_hasSound, Cond.selects RX4 yX4_hasSound yX4_hasSound] := goodIn_p [Cond.code yX4_targetThings cX4_targetThings 2 (some .int), Cond.methodLink RX4 92 yX4_hasSound, Cond.instanceMethod yX4_hasSound, Cond.selects RX4 yX4_hasSound yX4_hasSound] [434] (by decide +kernel) (by decide +kernel)
set_option maxRecDepth 20000 in
theorem wsL_in_17_5 : GoodIn lw_tbl [Cond.code yX4_hasSound cX4_hasSound 2 (some .boolean), Cond.methodLink RX4 95 yX4_hasMeaning, Cond.methodLink RX6 159 yX6_show, Cond.instanceMethod yX6_show] := goodIn_p [Cond.code yX4_hasSound cX4_hasSound 2 (some .boolean), Cond.methodLink RX4 95 yX4_hasMeaning, Cond.methodLink RX6 159 yX6_show, Cond.instanceMethod yX6_show] [362] (by decide +kernel) (by decide +kernel)
theorem wsL_in_17 : GoodIn lw_tbl wsL_law_r17 := (goodIn_app wsL_in_17_0 (goodIn_app wsL_in_17_1 (goodIn_app wsL_in_17_2 (goodIn_app wsL_in_17_3 (goodIn_app wsL_in_17_4 wsL_in_17_5)))))
set_option maxRecDepth 20000 in
theorem wsL_in_18_0 : GoodIn lw_tbl [Cond.selects RX6 yX6_show yX6_show, Cond.code yX6_show cX6_show 4 (some .int), Cond.fieldLink RX6 148 "FirstWords$Scene" "showings" "I", Cond.methodLink RX6 120 yX4_hasSound] := goodIn_p [Cond.selects RX6 yX6_show yX6_show, Cond.code yX6_show cX6_show 4 (some .int), Cond.fieldLink RX6 148 "FirstWords$Scene" "showings" "I", Cond.methodLink RX6 120 yX4_hasSound] [374] (by decide +kernel) (by decide +kernel)
set_option maxRecDepth 20000 in
theorem wsL_in_18_1 : GoodIn lw_tbl [Cond.methodLink RX6 151 yX6_takeShowing, Cond.instanceMethod yX6_takeShowing, Cond.selects RX6 yX6_takeShowing yX6_takeShowing, Cond.code yX6_takeShowing cX6_takeShowing 5 none] := goodIn_p [Cond.methodLink RX6 151 yX6_takeShowing, Cond.instanceMethod yX6_takeShowing, Cond.selects RX6 yX6_takeShowing yX6_takeShowing, Cond.code yX6_takeShowing cX6_takeShowing 5 none] [378] (by decide +kernel) (by decide +kernel)
set_option maxRecDepth 20000 in
theorem wsL_in_18_2 : GoodIn lw_tbl [Cond.fieldLink RX6 173 "FirstWords$Scene" "sound" "[I", Cond.fieldLink RX6 176 "FirstWords$Scene" "thing" "[I", Cond.fieldLink RX6 179 "FirstWords$Scene" "so" "[Z", Cond.methodLink RX6 166 yX4_allKinds] := goodIn_p [Cond.fieldLink RX6 173 "FirstWords$Scene" "sound" "[I", Cond.fieldLink RX6 176 "FirstWords$Scene" "thing" "[I", Cond.fieldLink RX6 179 "FirstWords$Scene" "so" "[Z", Cond.methodLink RX6 166 yX4_allKinds] [] (by decide +kernel) (by decide +kernel)
set_option maxRecDepth 20000 in
theorem wsL_in_18_3 : GoodIn lw_tbl [Cond.methodLink RX6 343 yX0_witness, Cond.instanceMethod yX0_witness, Cond.selects RX0 yX0_witness yX0_witness, Cond.code yX0_witness cX0_witness 9 (some .boolean)] := goodIn_p [Cond.methodLink RX6 343 yX0_witness, Cond.instanceMethod yX0_witness, Cond.selects RX0 yX0_witness yX0_witness, Cond.code yX0_witness cX0_witness 9 (some .boolean)] [386] (by decide +kernel) (by decide +kernel)
set_option maxRecDepth 20000 in
theorem wsL_in_18_4 : GoodIn lw_tbl [Cond.fieldLink RX0 54 "FirstWords$Told" "kinds" "I", Cond.fieldLink RX0 61 "FirstWords$Told" "fears" "[I", Cond.methodLink RX0 43 yX4_hasSound, Cond.methodLink RX0 47 yX4_hasThing] := goodIn_p [Cond.fieldLink RX0 54 "FirstWords$Told" "kinds" "I", Cond.fieldLink RX0 61 "FirstWords$Told" "fears" "[I", Cond.methodLink RX0 43 yX4_hasSound, Cond.methodLink RX0 47 yX4_hasThing] [] (by decide +kernel) (by decide +kernel)
set_option maxRecDepth 20000 in
theorem wsL_in_18_5 : GoodIn lw_tbl [Cond.methodLink RX0 50 yX4_fitting, Cond.instanceMethod yX4_fitting, Cond.selects RX4 yX4_fitting yX4_fitting, Cond.code yX4_fitting cX4_fitting 3 (some .int)] := goodIn_p [Cond.methodLink RX0 50 yX4_fitting, Cond.instanceMethod yX4_fitting, Cond.selects RX4 yX4_fitting yX4_fitting, Cond.code yX4_fitting cX4_fitting 3 (some .int)] [392] (by decide +kernel) (by decide +kernel)
theorem wsL_in_18 : GoodIn lw_tbl wsL_law_r18 := (goodIn_app wsL_in_18_0 (goodIn_app wsL_in_18_1 (goodIn_app wsL_in_18_2 (goodIn_app wsL_in_18_3 (goodIn_app wsL_in_18_4 wsL_in_18_5)))))
set_option maxRecDepth 20000 in
theorem wsL_in_19_0 : GoodIn lw_tbl [Cond.methodLink RX4 84 yX4_hasThing, Cond.methodLink RX4 88 yX4_allMeanings, Cond.methodLink RX0 64 yX0_frighten, Cond.instanceMethod yX0_frighten] := goodIn_p [Cond.methodLink RX4 84 yX4_hasThing, Cond.methodLink RX4 88 yX4_allMeanings, Cond.methodLink RX0 64 yX0_frighten, Cond.instanceMethod yX0_frighten] [] (by decide +kernel) (by decide +kernel)
set_option maxRecDepth 20000 in
theorem wsL_in_19_1 : GoodIn lw_tbl [Cond.selects RX0 yX0_frighten yX0_frighten, Cond.code yX0_frighten cX0_frighten 3 none, Cond.methodLink RX0 68 yX0_look, Cond.instanceMethod yX0_look] := goodIn_p [Cond.selects RX0 yX0_frighten yX0_frighten, Cond.code yX0_frighten cX0_frighten 3 none, Cond.methodLink RX0 68 yX0_look, Cond.instanceMethod yX0_look] [402] (by decide +kernel) (by decide +kernel)
set_option maxRecDepth 20000 in
theorem wsL_in_19_2 : GoodIn lw_tbl [Cond.selects RX0 yX0_look yX0_look, Cond.code yX0_look cX0_look 12 (some .boolean), Cond.fieldLink RX0 80 "FirstWords$Told" "sort" "[I", Cond.fieldLink RX0 83 "FirstWords$Told" "alike" "[I"] := goodIn_p [Cond.selects RX0 yX0_look yX0_look, Cond.code yX0_look cX0_look 12 (some .boolean), Cond.fieldLink RX0 80 "FirstWords$Told" "sort" "[I", Cond.fieldLink RX0 83 "FirstWords$Told" "alike" "[I"] [406] (by decide +kernel) (by decide +kernel)
set_option maxRecDepth 20000 in
theorem wsL_in_19_3 : GoodIn lw_tbl [Cond.methodLink RX0 72 yX0_choices, Cond.instanceMethod yX0_choices, Cond.selects RX0 yX0_choices yX0_choices, Cond.code yX0_choices cX0_choices 7 (some .int)] := goodIn_p [Cond.methodLink RX0 72 yX0_choices, Cond.instanceMethod yX0_choices, Cond.selects RX0 yX0_choices yX0_choices, Cond.code yX0_choices cX0_choices 7 (some .int)] [410] (by decide +kernel) (by decide +kernel)
set_option maxRecDepth 20000 in
theorem wsL_in_19_4 : GoodIn lw_tbl [Cond.fieldLink RX0 90 "FirstWords$Told" "can" "[I", Cond.fieldLink RX0 93 "FirstWords$Told" "sounds" "I", Cond.fieldLink RX0 96 "FirstWords$Told" "unlike" "[Z", Cond.methodLink RX0 100 yX0_thoughtOf] := goodIn_p [Cond.fieldLink RX0 90 "FirstWords$Told" "can" "[I", Cond.fieldLink RX0 93 "FirstWords$Told" "sounds" "I", Cond.fieldLink RX0 96 "FirstWords$Told" "unlike" "[Z", Cond.methodLink RX0 100 yX0_thoughtOf] [] (by decide +kernel) (by decide +kernel)
set_option maxRecDepth 20000 in
theorem wsL_in_19_5 : GoodIn lw_tbl [Cond.instanceMethod yX0_thoughtOf, Cond.selects RX0 yX0_thoughtOf yX0_thoughtOf, Cond.code yX0_thoughtOf cX0_thoughtOf 4 (some .int), Cond.methodLink RX0 76 yX4_plainest] := goodIn_p [Cond.instanceMethod yX0_thoughtOf, Cond.selects RX0 yX0_thoughtOf yX0_thoughtOf, Cond.code yX0_thoughtOf cX0_thoughtOf 4 (some .int), Cond.methodLink RX0 76 yX4_plainest] [414] (by decide +kernel) (by decide +kernel)
theorem wsL_in_19 : GoodIn lw_tbl wsL_law_r19 := (goodIn_app wsL_in_19_0 (goodIn_app wsL_in_19_1 (goodIn_app wsL_in_19_2 (goodIn_app wsL_in_19_3 (goodIn_app wsL_in_19_4 wsL_in_19_5)))))
set_option maxRecDepth 20000 in
theorem wsL_in_20_0 : GoodIn lw_tbl [Cond.instanceMethod yX4_plainest, Cond.selects RX4 yX4_plainest yX4_plainest, Cond.code yX4_plainest cX4_plainest 3 (some .int), Cond.methodLink RX0 86 yX0_holdOrTurn] := goodIn_p [Cond.instanceMethod yX4_plainest, Cond.selects RX4 yX4_plainest yX4_plainest, Cond.code yX4_plainest cX4_plainest 3 (some .int), Cond.methodLink RX0 86 yX0_holdOrTurn] [418] (by decide +kernel) (by decide +kernel)
set_option maxRecDepth 20000 in
theorem wsL_in_20_1 : GoodIn lw_tbl [Cond.instanceMethod yX0_holdOrTurn, Cond.selects RX0 yX0_holdOrTurn yX0_holdOrTurn, Cond.code yX0_holdOrTurn cX0_holdOrTurn 5 none, Cond.methodLink RLw 114 yX6_show] := goodIn_p [Cond.instanceMethod yX0_holdOrTurn, Cond.selects RX0 yX0_holdOrTurn yX0_holdOrTurn, Cond.code yX0_holdOrTurn cX0_holdOrTurn 5 none, Cond.methodLink RLw 114 yX6_show] [422] (by decide +kernel) (by decide +kernel)
set_option maxRecDepth 20000 in
theorem wsL_in_20_2 : GoodIn lw_tbl [Cond.methodLink RLw 118 yX6_undo, Cond.instanceMethod yX6_undo, Cond.selects RX6 yX6_undo yX6_undo, Cond.code yX6_undo cX6_undo 1 (some .int)] := goodIn_p [Cond.methodLink RLw 118 yX6_undo, Cond.instanceMethod yX6_undo, Cond.selects RX6 yX6_undo yX6_undo, Cond.code yX6_undo cX6_undo 1 (some .int)] [441] (by decide +kernel) (by decide +kernel)
set_option maxRecDepth 20000 in
theorem wsL_in_20_3 : GoodIn lw_tbl [Cond.methodLink RX6 163 yX6_thinkAgain, Cond.instanceMethod yX6_thinkAgain, Cond.selects RX6 yX6_thinkAgain yX6_thinkAgain, Cond.code yX6_thinkAgain cX6_thinkAgain 2 none] := goodIn_p [Cond.methodLink RX6 163 yX6_thinkAgain, Cond.instanceMethod yX6_thinkAgain, Cond.selects RX6 yX6_thinkAgain yX6_thinkAgain, Cond.code yX6_thinkAgain cX6_thinkAgain 2 none] [445] (by decide +kernel) (by decide +kernel)
set_option maxRecDepth 20000 in
theorem wsL_in_20_4 : GoodIn lw_tbl [Cond.methodLink RLw 121 yX6_keep, Cond.instanceMethod yX6_keep, Cond.selects RX6 yX6_keep yX6_keep, Cond.code yX6_keep cX6_keep 3 (some .int)] := goodIn_p [Cond.methodLink RLw 121 yX6_keep, Cond.instanceMethod yX6_keep, Cond.selects RX6 yX6_keep yX6_keep, Cond.code yX6_keep cX6_keep 3 (some .int)] [528] (by decide +kernel) (by decide +kernel)
set_option maxRecDepth 20000 in
theorem wsL_in_20_5 : GoodIn lw_tbl [Cond.methodLink RX6 308 yX1_become, Cond.instanceMethod yX1_become, Cond.selects RX1 yX1_become yX1_become, Cond.code yX1_become cX1_become 3 none] := goodIn_p [Cond.methodLink RX6 308 yX1_become, Cond.instanceMethod yX1_become, Cond.selects RX1 yX1_become yX1_become, Cond.code yX1_become cX1_become 3 none] [532] (by decide +kernel) (by decide +kernel)
theorem wsL_in_20 : GoodIn lw_tbl wsL_law_r20 := (goodIn_app wsL_in_20_0 (goodIn_app wsL_in_20_1 (goodIn_app wsL_in_20_2 (goodIn_app wsL_in_20_3 (goodIn_app wsL_in_20_4 wsL_in_20_5)))))
set_option maxRecDepth 20000 in
theorem wsL_in_21_0 : GoodIn lw_tbl [Cond.methodLink RX1 44 arraycopyName, Cond.native arraycopyName, Cond.static arraycopyName, Cond.initialized "java/lang/System"] := goodIn_p [Cond.methodLink RX1 44 arraycopyName, Cond.native arraycopyName, Cond.static arraycopyName, Cond.initialized "java/lang/System"] [] (by decide +kernel) (by decide +kernel)
set_option maxRecDepth 20000 in
theorem wsL_in_21_1 : GoodIn lw_tbl [Cond.methodLink RLw 124 yX6_back, Cond.instanceMethod yX6_back, Cond.selects RX6 yX6_back yX6_back, Cond.code yX6_back cX6_back 2 (some .int)] := goodIn_p [Cond.methodLink RLw 124 yX6_back, Cond.instanceMethod yX6_back, Cond.selects RX6 yX6_back yX6_back, Cond.code yX6_back cX6_back 2 (some .int)] [539] (by decide +kernel) (by decide +kernel)
set_option maxRecDepth 20000 in
theorem wsL_in_21_2 : GoodIn lw_tbl [Cond.methodLink RLw 127 yX6_clear, Cond.instanceMethod yX6_clear, Cond.selects RX6 yX6_clear yX6_clear, Cond.code yX6_clear cX6_clear 2 (some .int)] := goodIn_p [Cond.methodLink RLw 127 yX6_clear, Cond.instanceMethod yX6_clear, Cond.selects RX6 yX6_clear yX6_clear, Cond.code yX6_clear cX6_clear 2 (some .int)] [454] (by decide +kernel) (by decide +kernel)
set_option maxRecDepth 20000 in
theorem wsL_in_21_3 : GoodIn lw_tbl [Cond.fieldLink RX6 170 "FirstWords$Scene" "left" "I", Cond.methodLink RLw 130 yL_all, Cond.static yL_all, Cond.code yL_all cL_all 9 none] := goodIn_p [Cond.fieldLink RX6 170 "FirstWords$Scene" "left" "I", Cond.methodLink RLw 130 yL_all, Cond.static yL_all, Cond.code yL_all cL_all 9 none] [777] (by decide +kernel) (by decide +kernel)
set_option maxRecDepth 20000 in
theorem wsL_in_21_4 : GoodIn lw_tbl [Cond.methodLink RLw 85 yL_fresh, Cond.static yL_fresh, Cond.code yL_fresh cL_fresh 2 none, Cond.methodLink RLw 89 yL_fitting] := goodIn_p [Cond.methodLink RLw 85 yL_fresh, Cond.static yL_fresh, Cond.code yL_fresh cL_fresh 2 none, Cond.methodLink RLw 89 yL_fitting] [780] (by decide +kernel) (by decide +kernel)
set_option maxRecDepth 20000 in
theorem wsL_in_21_5 : GoodIn lw_tbl [Cond.static yL_fitting, Cond.code yL_fitting cL_fitting 8 (some .int), Cond.methodLink RLw 93 yL_learns, Cond.static yL_learns] := goodIn_p [Cond.static yL_fitting, Cond.code yL_fitting cL_fitting 8 (some .int), Cond.methodLink RLw 93 yL_learns, Cond.static yL_learns] [771] (by decide +kernel) (by decide +kernel)
theorem wsL_in_21 : GoodIn lw_tbl wsL_law_r21 := (goodIn_app wsL_in_21_0 (goodIn_app wsL_in_21_1 (goodIn_app wsL_in_21_2 (goodIn_app wsL_in_21_3 (goodIn_app wsL_in_21_4 wsL_in_21_5)))))
set_option maxRecDepth 20000 in
theorem wsL_in_22_0 : GoodIn lw_tbl [Cond.code yL_learns cL_learns 16 none, Cond.methodLink RLw 81 yL_plainest, Cond.static yL_plainest, Cond.code yL_plainest cL_plainest 7 (some .int)] := goodIn_p [Cond.code yL_learns cL_learns 16 none, Cond.methodLink RLw 81 yL_plainest, Cond.static yL_plainest, Cond.code yL_plainest cL_plainest 7 (some .int)] [783, 786] (by decide +kernel) (by decide +kernel)
set_option maxRecDepth 20000 in
theorem wsL_in_22_1 : GoodIn lw_tbl [Cond.methodLink RLw 134 yX6_count, Cond.instanceMethod yX6_count, Cond.selects RX6 yX6_count yX6_count, Cond.code yX6_count cX6_count 2 (some .int)] := goodIn_p [Cond.methodLink RLw 134 yX6_count, Cond.instanceMethod yX6_count, Cond.selects RX6 yX6_count yX6_count, Cond.code yX6_count cX6_count 2 (some .int)] [543] (by decide +kernel) (by decide +kernel)
set_option maxRecDepth 20000 in
theorem wsL_in_22_2 : GoodIn lw_tbl [Cond.fieldLink RX6 242 "FirstWords$Told" "things" "I", Cond.fieldLink RX6 334 "FirstWords$Told" "meanings" "I", Cond.fieldLink RX6 202 "FirstWords$Told" "sounds" "I", Cond.fieldLink RX6 305 "FirstWords$Told" "kinds" "I"] := goodIn_p [Cond.fieldLink RX6 242 "FirstWords$Told" "things" "I", Cond.fieldLink RX6 334 "FirstWords$Told" "meanings" "I", Cond.fieldLink RX6 202 "FirstWords$Told" "sounds" "I", Cond.fieldLink RX6 305 "FirstWords$Told" "kinds" "I"] [] (by decide +kernel) (by decide +kernel)
set_option maxRecDepth 20000 in
theorem wsL_in_22_3 : GoodIn lw_tbl [Cond.fieldLink RX6 282 "FirstWords$Scene" "theirs" "I", Cond.fieldLink RX6 340 "FirstWords$Sheets" "size" "[I", Cond.methodLink RX6 337 yX6_imagesKept, Cond.instanceMethod yX6_imagesKept] := goodIn_p [Cond.fieldLink RX6 282 "FirstWords$Scene" "theirs" "I", Cond.fieldLink RX6 340 "FirstWords$Sheets" "size" "[I", Cond.methodLink RX6 337 yX6_imagesKept, Cond.instanceMethod yX6_imagesKept] [] (by decide +kernel) (by decide +kernel)
set_option maxRecDepth 20000 in
theorem wsL_in_22_4 : GoodIn lw_tbl [Cond.selects RX6 yX6_imagesKept yX6_imagesKept, Cond.code yX6_imagesKept cX6_imagesKept 3 (some .int), Cond.methodLink RLw 137 yX6_shown, Cond.instanceMethod yX6_shown] := goodIn_p [Cond.selects RX6 yX6_imagesKept yX6_imagesKept, Cond.code yX6_imagesKept cX6_imagesKept 3 (some .int), Cond.methodLink RLw 137 yX6_shown, Cond.instanceMethod yX6_shown] [547] (by decide +kernel) (by decide +kernel)
set_option maxRecDepth 20000 in
theorem wsL_in_22_5 : GoodIn lw_tbl [Cond.selects RX6 yX6_shown yX6_shown, Cond.code yX6_shown cX6_shown 3 (some .int), Cond.methodLink RLw 140 yL_isSame, Cond.static yL_isSame] := goodIn_p [Cond.selects RX6 yX6_shown yX6_shown, Cond.code yX6_shown cX6_shown 3 (some .int), Cond.methodLink RLw 140 yL_isSame, Cond.static yL_isSame] [458] (by decide +kernel) (by decide +kernel)
theorem wsL_in_22 : GoodIn lw_tbl wsL_law_r22 := (goodIn_app wsL_in_22_0 (goodIn_app wsL_in_22_1 (goodIn_app wsL_in_22_2 (goodIn_app wsL_in_22_3 (goodIn_app wsL_in_22_4 wsL_in_22_5)))))
set_option maxRecDepth 20000 in
theorem wsL_in_23_0 : GoodIn lw_tbl [Cond.code yL_isSame cL_isSame 6 (some .boolean), Cond.methodLink RLw 144 yX6_thinks, Cond.instanceMethod yX6_thinks, Cond.selects RX6 yX6_thinks yX6_thinks] := goodIn_p [Cond.code yL_isSame cL_isSame 6 (some .boolean), Cond.methodLink RLw 144 yX6_thinks, Cond.instanceMethod yX6_thinks, Cond.selects RX6 yX6_thinks yX6_thinks] [774] (by decide +kernel) (by decide +kernel)
set_option maxRecDepth 20000 in
theorem wsL_in_23_1 : GoodIn lw_tbl [Cond.code yX6_thinks cX6_thinks 3 (some .int), Cond.methodLink RX6 182 yX0_thoughtOf, Cond.methodLink RLw 147 yX6_against, Cond.instanceMethod yX6_against] := goodIn_p [Cond.code yX6_thinks cX6_thinks 3 (some .int), Cond.methodLink RX6 182 yX0_thoughtOf, Cond.methodLink RLw 147 yX6_against, Cond.instanceMethod yX6_against] [462] (by decide +kernel) (by decide +kernel)
set_option maxRecDepth 20000 in
theorem wsL_in_23_2 : GoodIn lw_tbl [Cond.selects RX6 yX6_against yX6_against, Cond.code yX6_against cX6_against 3 (some .int), Cond.fieldLink RX6 196 "FirstWords$Minds" "wrong" "[I", Cond.methodLink RLw 150 yX6_same] := goodIn_p [Cond.selects RX6 yX6_against yX6_against, Cond.code yX6_against cX6_against 3 (some .int), Cond.fieldLink RX6 196 "FirstWords$Minds" "wrong" "[I", Cond.methodLink RLw 150 yX6_same] [487] (by decide +kernel) (by decide +kernel)
set_option maxRecDepth 20000 in
theorem wsL_in_23_3 : GoodIn lw_tbl [Cond.instanceMethod yX6_same, Cond.selects RX6 yX6_same yX6_same, Cond.code yX6_same cX6_same 3 (some .int), Cond.methodLink RX6 189 yX0_isSame] := goodIn_p [Cond.instanceMethod yX6_same, Cond.selects RX6 yX6_same yX6_same, Cond.code yX6_same cX6_same 3 (some .int), Cond.methodLink RX6 189 yX0_isSame] [471] (by decide +kernel) (by decide +kernel)
set_option maxRecDepth 20000 in
theorem wsL_in_23_4 : GoodIn lw_tbl [Cond.instanceMethod yX0_isSame, Cond.selects RX0 yX0_isSame yX0_isSame, Cond.code yX0_isSame cX0_isSame 4 (some .boolean), Cond.methodLink RX0 104 yX4_likeTarget] := goodIn_p [Cond.instanceMethod yX0_isSame, Cond.selects RX0 yX0_isSame yX0_isSame, Cond.code yX0_isSame cX0_isSame 4 (some .boolean), Cond.methodLink RX0 104 yX4_likeTarget] [475] (by decide +kernel) (by decide +kernel)
set_option maxRecDepth 20000 in
theorem wsL_in_23_5 : GoodIn lw_tbl [Cond.instanceMethod yX4_likeTarget, Cond.selects RX4 yX4_likeTarget yX4_likeTarget, Cond.code yX4_likeTarget cX4_likeTarget 2 (some .int), Cond.methodLink RLw 153 yX6_fits] := goodIn_p [Cond.instanceMethod yX4_likeTarget, Cond.selects RX4 yX4_likeTarget yX4_likeTarget, Cond.code yX4_likeTarget cX4_likeTarget 2 (some .int), Cond.methodLink RLw 153 yX6_fits] [479] (by decide +kernel) (by decide +kernel)
theorem wsL_in_23 : GoodIn lw_tbl wsL_law_r23 := (goodIn_app wsL_in_23_0 (goodIn_app wsL_in_23_1 (goodIn_app wsL_in_23_2 (goodIn_app wsL_in_23_3 (goodIn_app wsL_in_23_4 wsL_in_23_5)))))
set_option maxRecDepth 20000 in
theorem wsL_in_24_0 : GoodIn lw_tbl [Cond.instanceMethod yX6_fits, Cond.selects RX6 yX6_fits yX6_fits, Cond.code yX6_fits cX6_fits 3 (some .int), Cond.fieldLink RX6 186 "FirstWords$Minds" "fit" "[I"] := goodIn_p [Cond.instanceMethod yX6_fits, Cond.selects RX6 yX6_fits yX6_fits, Cond.code yX6_fits cX6_fits 3 (some .int), Cond.fieldLink RX6 186 "FirstWords$Minds" "fit" "[I"] [467] (by decide +kernel) (by decide +kernel)
set_option maxRecDepth 20000 in
theorem wsL_in_24_1 : GoodIn lw_tbl [Cond.methodLink RLw 156 yX6_fled, Cond.instanceMethod yX6_fled, Cond.selects RX6 yX6_fled yX6_fled, Cond.code yX6_fled cX6_fled 2 (some .int)] := goodIn_p [Cond.methodLink RLw 156 yX6_fled, Cond.instanceMethod yX6_fled, Cond.selects RX6 yX6_fled yX6_fled, Cond.code yX6_fled cX6_fled 2 (some .int)] [483] (by decide +kernel) (by decide +kernel)
set_option maxRecDepth 20000 in
theorem wsL_in_24_2 : GoodIn lw_tbl [Cond.fieldLink RX6 193 "FirstWords$Minds" "fledAt" "[I", Cond.methodLink RLw 159 yX6_answer, Cond.instanceMethod yX6_answer, Cond.selects RX6 yX6_answer yX6_answer] := goodIn_p [Cond.fieldLink RX6 193 "FirstWords$Minds" "fledAt" "[I", Cond.methodLink RLw 159 yX6_answer, Cond.instanceMethod yX6_answer, Cond.selects RX6 yX6_answer yX6_answer] [] (by decide +kernel) (by decide +kernel)
set_option maxRecDepth 20000 in
theorem wsL_in_24_3 : GoodIn lw_tbl [Cond.code yX6_answer cX6_answer 4 (some .int), Cond.methodLink RX6 260 yX0_answerOf, Cond.instanceMethod yX0_answerOf, Cond.selects RX0 yX0_answerOf yX0_answerOf] := goodIn_p [Cond.code yX6_answer cX6_answer 4 (some .int), Cond.methodLink RX6 260 yX0_answerOf, Cond.instanceMethod yX0_answerOf, Cond.selects RX0 yX0_answerOf yX0_answerOf] [504] (by decide +kernel) (by decide +kernel)
set_option maxRecDepth 20000 in
theorem wsL_in_24_4 : GoodIn lw_tbl [Cond.code yX0_answerOf cX0_answerOf 6 (some .int), Cond.fieldLink RX0 117 "FirstWords$Told" "are" "[I", Cond.methodLink RX0 114 yX4_hasMeaning, Cond.methodLink RLw 163 yX6_likely] := goodIn_p [Cond.code yX0_answerOf cX0_answerOf 6 (some .int), Cond.fieldLink RX0 117 "FirstWords$Told" "are" "[I", Cond.methodLink RX0 114 yX4_hasMeaning, Cond.methodLink RLw 163 yX6_likely] [508] (by decide +kernel) (by decide +kernel)
set_option maxRecDepth 20000 in
theorem wsL_in_24_5 : GoodIn lw_tbl [Cond.instanceMethod yX6_likely, Cond.selects RX6 yX6_likely yX6_likely, Cond.code yX6_likely cX6_likely 4 (some .int), Cond.methodLink RX6 251 yX4_chances] := goodIn_p [Cond.instanceMethod yX6_likely, Cond.selects RX6 yX6_likely yX6_likely, Cond.code yX6_likely cX6_likely 4 (some .int), Cond.methodLink RX6 251 yX4_chances] [513] (by decide +kernel) (by decide +kernel)
theorem wsL_in_24 : GoodIn lw_tbl wsL_law_r24 := (goodIn_app wsL_in_24_0 (goodIn_app wsL_in_24_1 (goodIn_app wsL_in_24_2 (goodIn_app wsL_in_24_3 (goodIn_app wsL_in_24_4 wsL_in_24_5)))))
set_option maxRecDepth 20000 in
theorem wsL_in_25_0 : GoodIn lw_tbl [Cond.instanceMethod yX4_chances, Cond.selects RX4 yX4_chances yX4_chances, Cond.code yX4_chances cX4_chances 4 (some .int), Cond.methodLink RX6 278 yX0_chanceOfSame] := goodIn_p [Cond.instanceMethod yX4_chances, Cond.selects RX4 yX4_chances yX4_chances, Cond.code yX4_chances cX4_chances 4 (some .int), Cond.methodLink RX6 278 yX0_chanceOfSame] [517] (by decide +kernel) (by decide +kernel)
set_option maxRecDepth 20000 in
theorem wsL_in_25_1 : GoodIn lw_tbl [Cond.instanceMethod yX0_chanceOfSame, Cond.selects RX0 yX0_chanceOfSame yX0_chanceOfSame, Cond.code yX0_chanceOfSame cX0_chanceOfSame 5 (some .int), Cond.fieldLink RX0 111 "FirstWords$Told" "chance" "[I"] := goodIn_p [Cond.instanceMethod yX0_chanceOfSame, Cond.selects RX0 yX0_chanceOfSame yX0_chanceOfSame, Cond.code yX0_chanceOfSame cX0_chanceOfSame 5 (some .int), Cond.fieldLink RX0 111 "FirstWords$Told" "chance" "[I"] [521] (by decide +kernel) (by decide +kernel)
set_option maxRecDepth 20000 in
theorem wsL_in_25_2 : GoodIn lw_tbl [Cond.methodLink RX0 107 yX0_isSame, Cond.methodLink RX6 254 yX6_ofLowestTerms, Cond.static yX6_ofLowestTerms, Cond.code yX6_ofLowestTerms cX6_ofLowestTerms 7 (some .int)] := goodIn_p [Cond.methodLink RX0 107 yX0_isSame, Cond.methodLink RX6 254 yX6_ofLowestTerms, Cond.static yX6_ofLowestTerms, Cond.code yX6_ofLowestTerms cX6_ofLowestTerms 7 (some .int)] [524] (by decide +kernel) (by decide +kernel)
set_option maxRecDepth 20000 in
theorem wsL_in_25_3 : GoodIn lw_tbl [Cond.methodLink RLw 166 yX6_common, Cond.instanceMethod yX6_common, Cond.selects RX6 yX6_common yX6_common, Cond.code yX6_common cX6_common 4 (some .int)] := goodIn_p [Cond.methodLink RLw 166 yX6_common, Cond.instanceMethod yX6_common, Cond.selects RX6 yX6_common yX6_common, Cond.code yX6_common cX6_common 4 (some .int)] [491] (by decide +kernel) (by decide +kernel)
set_option maxRecDepth 20000 in
theorem wsL_in_25_4 : GoodIn lw_tbl [Cond.methodLink RX6 199 yX4_areKinds, Cond.instanceMethod yX4_areKinds, Cond.selects RX4 yX4_areKinds yX4_areKinds, Cond.code yX4_areKinds cX4_areKinds 2 (some .boolean)] := goodIn_p [Cond.methodLink RX6 199 yX4_areKinds, Cond.instanceMethod yX4_areKinds, Cond.selects RX4 yX4_areKinds yX4_areKinds, Cond.code yX4_areKinds cX4_areKinds 2 (some .boolean)] [495] (by decide +kernel) (by decide +kernel)
set_option maxRecDepth 20000 in
theorem wsL_in_25_5 : GoodIn lw_tbl [Cond.methodLink RX6 205 yX0_isSameForAll, Cond.instanceMethod yX0_isSameForAll, Cond.selects RX0 yX0_isSameForAll yX0_isSameForAll, Cond.code yX0_isSameForAll cX0_isSameForAll 5 (some .boolean)] := goodIn_p [Cond.methodLink RX6 205 yX0_isSameForAll, Cond.instanceMethod yX0_isSameForAll, Cond.selects RX0 yX0_isSameForAll yX0_isSameForAll, Cond.code yX0_isSameForAll cX0_isSameForAll 5 (some .boolean)] [499] (by decide +kernel) (by decide +kernel)
theorem wsL_in_25 : GoodIn lw_tbl wsL_law_r25 := (goodIn_app wsL_in_25_0 (goodIn_app wsL_in_25_1 (goodIn_app wsL_in_25_2 (goodIn_app wsL_in_25_3 (goodIn_app wsL_in_25_4 wsL_in_25_5)))))
set_option maxRecDepth 20000 in
theorem wsL_in_26_0 : GoodIn lw_tbl [Cond.methodLink RLw 169 yX6_word, Cond.instanceMethod yX6_word, Cond.selects RX6 yX6_word yX6_word, Cond.code yX6_word cX6_word 2 (some .int)] := goodIn_p [Cond.methodLink RLw 169 yX6_word, Cond.instanceMethod yX6_word, Cond.selects RX6 yX6_word yX6_word, Cond.code yX6_word cX6_word 2 (some .int)] [358] (by decide +kernel) (by decide +kernel)
set_option maxRecDepth 20000 in
theorem wsL_in_26_1 : GoodIn lw_tbl [Cond.fieldLink RX6 123 "FirstWords$Told" "target" "[I"] := goodIn_p [Cond.fieldLink RX6 123 "FirstWords$Told" "target" "[I"] [] (by decide +kernel) (by decide +kernel)
theorem wsL_in_26 : GoodIn lw_tbl wsL_law_r26 := (goodIn_app wsL_in_26_0 wsL_in_26_1)
theorem wsL_in_X6 : GoodIn lw_tbl wsX60 := goodIn_p wsX60 [] (by decide +kernel) (by decide +kernel)
theorem wsL_in_X3 : GoodIn lw_tbl wsX30 := goodIn_p wsX30 [] (by decide +kernel) (by decide +kernel)
theorem wsL_in_X4 : GoodIn lw_tbl wsX40 := goodIn_p wsX40 [] (by decide +kernel) (by decide +kernel)
theorem wsL_in_X1 : GoodIn lw_tbl wsX10 := goodIn_p wsX10 [] (by decide +kernel) (by decide +kernel)
theorem wsL_in_X0 : GoodIn lw_tbl wsX00 := goodIn_p wsX00 [] (by decide +kernel) (by decide +kernel)
theorem wsL_in_X5 : GoodIn lw_tbl wsX50 := goodIn_p wsX50 [] (by decide +kernel) (by decide +kernel)
theorem wsL_in_X2 : GoodIn lw_tbl wsX20 := goodIn_p wsX20 [] (by decide +kernel) (by decide +kernel)
theorem wsL_good : GoodIn lw_tbl wsL_law := goodIn_app (goodIn_app (goodIn_app (goodIn_app (goodIn_app (goodIn_app (goodIn_app (goodIn_app (goodIn_app wsL_in_1 (goodIn_app wsL_in_2 (goodIn_app wsL_in_3 (goodIn_app wsL_in_4 (goodIn_app wsL_in_5 (goodIn_app wsL_in_6 (goodIn_app wsL_in_7 (goodIn_app wsL_in_8 (goodIn_app wsL_in_9 (goodIn_app wsL_in_10 (goodIn_app wsL_in_11 (goodIn_app wsL_in_12 (goodIn_app wsL_in_13 (goodIn_app wsL_in_14 (goodIn_app wsL_in_15 (goodIn_app wsL_in_16 (goodIn_app wsL_in_17 (goodIn_app wsL_in_18 (goodIn_app wsL_in_19 (goodIn_app wsL_in_20 (goodIn_app wsL_in_21 (goodIn_app wsL_in_22 (goodIn_app wsL_in_23 (goodIn_app wsL_in_24 (goodIn_app wsL_in_25 wsL_in_26))))))))))))))))))))))))) wsL_in_X6) wsL_in_X3) wsL_in_X4) wsL_in_X1) wsL_in_X0) wsL_in_X5) wsL_in_X2) (fun w h => absurd h List.not_mem_nil)
theorem wsL_law_in : ∀ w ∈ wsL_law, w ∈ lw_tbl := fun w h => (wsL_good w h).1
end
section
/-- fields: 0 a number, 1 a row of its own, 2 one of the two Told, 3 + 16 c + n the object (c, n) -/
def fkt : List (List Nat) := [[0, 1, 1, 1, 1, 1], [0, 1, 1, 1, 0, 0, 1, 1, 0], [1, 1, 1], [1, 0, 0, 0, 0, 0, 0, 0, 0], [0, 0, 0, 0, 1, 1, 1, 1, 1, 1, 1, 1, 1, 1, 1, 1, 1, 1, 1], [1, 0, 1, 0, 1, 1, 1, 0, 0, 0], [51, 2, 2, 19, 1, 3, 4, 83, 35, 0]]
def mts_ : List (MethodName × ByteArray × Nat × Option FieldType) := [(yX0_blank, cX0_blank, 3, none), (⟨"", "", ""⟩, ⟨#[]⟩, 0, none), (yX0_witness, cX0_witness, 9, some .boolean), (yX0_frighten, cX0_frighten, 3, none), (yX0_look, cX0_look, 12, some .boolean), (yX0_holdOrTurn, cX0_holdOrTurn, 5, none), (yX0_choices, cX0_choices, 7, some .int), (yX0_thoughtOf, cX0_thoughtOf, 4, some .int), (yX0_isSame, cX0_isSame, 4, some .boolean), (yX0_isSameForAll, cX0_isSameForAll, 5, some .boolean), (yX0_chanceOfSame, cX0_chanceOfSame, 5, some .int), (yX0_answerOf, cX0_answerOf, 6, some .int), (⟨"", "", ""⟩, ⟨#[]⟩, 0, none), (yX1_empty, cX1_empty, 2, none), (yX1_become, cX1_become, 3, none), (⟨"", "", ""⟩, ⟨#[]⟩, 0, none), (⟨"", "", ""⟩, ⟨#[]⟩, 0, none), (⟨"", "", ""⟩, ⟨#[]⟩, 0, none), (⟨"", "", ""⟩, ⟨#[]⟩, 0, none), (⟨"", "", ""⟩, ⟨#[]⟩, 0, none), (yX3_put, cX3_put, 2, none), (yX3_readInto, cX3_readInto, 3, some .boolean), (yX3_blame, cX3_blame, 2, none), (yX3_byteAt, cX3_byteAt, 2, some .int), (yX3_tokenAt, cX3_tokenAt, 3, some .int), (yX3_nextToken, cX3_nextToken, 1, none), (yX3_isNamed, cX3_isNamed, 3, some .boolean), (yX3_readLine, cX3_readLine, 3, none), (yX3_sortNamed, cX3_sortNamed, 1, some .int), (yX3_readThing, cX3_readThing, 2, none), (yX3_readMeaning, cX3_readMeaning, 4, none), (yX3_readWord, cX3_readWord, 2, none), (yX3_readKind, cX3_readKind, 7, none), (yX3_withNamed, cX3_withNamed, 1, some .int), (yX3_takeLetters, cX3_takeLetters, 5, some .int), (yX3_takeNumber, cX3_takeNumber, 4, some .int), (yX4_empty, cX4_empty, 1, none), (yX4_addThing, cX4_addThing, 2, none), (yX4_addMeaning, cX4_addMeaning, 3, none), (yX4_addSound, cX4_addSound, 2, none), (yX4_addKind, cX4_addKind, 2, none), (yX4_settle, cX4_settle, 3, none), (yX4_settleMeanings, cX4_settleMeanings, 4, none), (yX4_hasThing, cX4_hasThing, 2, some .boolean), (yX4_hasMeaning, cX4_hasMeaning, 2, some .boolean), (yX4_hasSound, cX4_hasSound, 2, some .boolean), (yX4_hasKind, cX4_hasKind, 2, some .boolean), (yX4_areKinds, cX4_areKinds, 2, some .boolean), (⟨"", "", ""⟩, ⟨#[]⟩, 0, none), (yX4_allMeanings, cX4_allMeanings, 1, some .int), (yX4_allKinds, cX4_allKinds, 1, some .int), (yX4_plainest, cX4_plainest, 3, some .int), (yX4_fitting, cX4_fitting, 3, some .int), (yX4_targetThings, cX4_targetThings, 2, some .int), (yX4_likeTarget, cX4_likeTarget, 2, some .int), (yX4_isTarget, cX4_isTarget, 3, some .boolean), (yX4_kindsThatCan, cX4_kindsThatCan, 4, some .int), (⟨"", "", ""⟩, ⟨#[]⟩, 0, none), (yX4_chances, cX4_chances, 4, some .int), (⟨"", "", ""⟩, ⟨#[]⟩, 0, none), (⟨"", "", ""⟩, ⟨#[]⟩, 0, none), (⟨"", "", ""⟩, ⟨#[]⟩, 0, none), (⟨"", "", ""⟩, ⟨#[]⟩, 0, none), (⟨"", "", ""⟩, ⟨#[]⟩, 0, none), (⟨"", "", ""⟩, ⟨#[]⟩, 0, none), (⟨"", "", ""⟩, ⟨#[]⟩, 0, none), (⟨"", "", ""⟩, ⟨#[]⟩, 0, none), (yX6_feed, cX6_feed, 4, some .int), (yX6_end, cX6_end, 3, some .int), (yX6_text, cX6_text, 4, some .int), (⟨"", "", ""⟩, ⟨#[]⟩, 0, none), (yX6_thing, cX6_thing, 2, some .int), (yX6_meaning, cX6_meaning, 3, some .int), (yX6_word, cX6_word, 2, some .int), (yX6_kind, cX6_kind, 3, some .int), (yX6_show, cX6_show, 4, some .int), (yX6_teach, cX6_teach, 3, some .int), (yX6_undo, cX6_undo, 1, some .int), (yX6_clear, cX6_clear, 2, some .int), (yX6_shown, cX6_shown, 3, some .int), (yX6_thinks, cX6_thinks, 3, some .int), (yX6_fits, cX6_fits, 3, some .int), (yX6_same, cX6_same, 3, some .int), (yX6_fled, cX6_fled, 2, some .int), (yX6_against, cX6_against, 3, some .int), (yX6_common, cX6_common, 4, some .int), (⟨"", "", ""⟩, ⟨#[]⟩, 0, none), (⟨"", "", ""⟩, ⟨#[]⟩, 0, none), (⟨"", "", ""⟩, ⟨#[]⟩, 0, none), (⟨"", "", ""⟩, ⟨#[]⟩, 0, none), (⟨"", "", ""⟩, ⟨#[]⟩, 0, none), (yX6_answer, cX6_answer, 4, some .int), (⟨"", "", ""⟩, ⟨#[]⟩, 0, none), (⟨"", "", ""⟩, ⟨#[]⟩, 0, none), (⟨"", "", ""⟩, ⟨#[]⟩, 0, none), (⟨"", "", ""⟩, ⟨#[]⟩, 0, none), (yX6_likely, cX6_likely, 4, some .int), (⟨"", "", ""⟩, ⟨#[]⟩, 0, none), (⟨"", "", ""⟩, ⟨#[]⟩, 0, none), (⟨"", "", ""⟩, ⟨#[]⟩, 0, none), (⟨"", "", ""⟩, ⟨#[]⟩, 0, none), (⟨"", "", ""⟩, ⟨#[]⟩, 0, none), (yX6_keep, cX6_keep, 3, some .int), (yX6_back, cX6_back, 2, some .int), (⟨"", "", ""⟩, ⟨#[]⟩, 0, none), (⟨"", "", ""⟩, ⟨#[]⟩, 0, none), (⟨"", "", ""⟩, ⟨#[]⟩, 0, none), (⟨"", "", ""⟩, ⟨#[]⟩, 0, none), (yX6_count, cX6_count, 2, some .int), (yX6_isIn, cX6_isIn, 2, some .boolean), (yX6_ofLowestTerms, cX6_ofLowestTerms, 7, some .int), (yX6_takeShowing, cX6_takeShowing, 5, none), (yX6_thinkAgain, cX6_thinkAgain, 2, none), (⟨"", "", ""⟩, ⟨#[]⟩, 0, none), (⟨"", "", ""⟩, ⟨#[]⟩, 0, none), (⟨"", "", ""⟩, ⟨#[]⟩, 0, none), (⟨"", "", ""⟩, ⟨#[]⟩, 0, none), (⟨"", "", ""⟩, ⟨#[]⟩, 0, none), (⟨"", "", ""⟩, ⟨#[]⟩, 0, none), (⟨"", "", ""⟩, ⟨#[]⟩, 0, none), (yX6_imagesKept, cX6_imagesKept, 3, some .int), (yL_cell, cL_cell, 2, some .int), (yL_low, cL_low, 2, some .int), (yL_put, cL_put, 3, none), (yL_word, cL_word, 6, none), (yL_ended, cL_ended, 3, some .boolean), (yL_number, cL_number, 5, none), (yL_ones, cL_ones, 3, some .int), (yL_letters, cL_letters, 4, none), (yL_told, cL_told, 16, some .boolean), (yL_fresh, cL_fresh, 2, none), (yL_plainest, cL_plainest, 7, some .int), (yL_learns, cL_learns, 16, none), (yL_fitting, cL_fitting, 8, some .int), (yL_isSame, cL_isSame, 6, some .boolean), (yL_all, cL_all, 9, none), (⟨"", "", ""⟩, ⟨#[]⟩, 0, none), (⟨"", "", ""⟩, ⟨#[]⟩, 0, none), (⟨"", "", ""⟩, ⟨#[]⟩, 0, none), (⟨"", "", ""⟩, ⟨#[]⟩, 0, none), (⟨"", "", ""⟩, ⟨#[]⟩, 0, none), (⟨"", "", ""⟩, ⟨#[]⟩, 0, none), (⟨"", "", ""⟩, ⟨#[]⟩, 0, none), (⟨"", "", ""⟩, ⟨#[]⟩, 0, none), (⟨"", "", ""⟩, ⟨#[]⟩, 0, none), (⟨"", "", ""⟩, ⟨#[]⟩, 0, none), (⟨"", "", ""⟩, ⟨#[]⟩, 0, none), (⟨"", "", ""⟩, ⟨#[]⟩, 0, none), (⟨"", "", ""⟩, ⟨#[]⟩, 0, none), (⟨"", "", ""⟩, ⟨#[]⟩, 0, none), (⟨"", "", ""⟩, ⟨#[]⟩, 0, none), (⟨"", "", ""⟩, ⟨#[]⟩, 0, none), (⟨"", "", ""⟩, ⟨#[]⟩, 0, none), (⟨"", "", ""⟩, ⟨#[]⟩, 0, none), (⟨"", "", ""⟩, ⟨#[]⟩, 0, none), (⟨"", "", ""⟩, ⟨#[]⟩, 0, none), (⟨"", "", ""⟩, ⟨#[]⟩, 0, none), (⟨"", "", ""⟩, ⟨#[]⟩, 0, none), (⟨"", "", ""⟩, ⟨#[]⟩, 0, none), (⟨"", "", ""⟩, ⟨#[]⟩, 0, none), (⟨"", "", ""⟩, ⟨#[]⟩, 0, none), (⟨"", "", ""⟩, ⟨#[]⟩, 0, none), (⟨"", "", ""⟩, ⟨#[]⟩, 0, none), (⟨"", "", ""⟩, ⟨#[]⟩, 0, none), (⟨"", "", ""⟩, ⟨#[]⟩, 0, none), (⟨"", "", ""⟩, ⟨#[]⟩, 0, none), (⟨"", "", ""⟩, ⟨#[]⟩, 0, none), (⟨"", "", ""⟩, ⟨#[]⟩, 0, none), (⟨"", "", ""⟩, ⟨#[]⟩, 0, none), (⟨"", "", ""⟩, ⟨#[]⟩, 0, none), (⟨"", "", ""⟩, ⟨#[]⟩, 0, none), (⟨"", "", ""⟩, ⟨#[]⟩, 0, none), (⟨"", "", ""⟩, ⟨#[]⟩, 0, none), (⟨"", "", ""⟩, ⟨#[]⟩, 0, none), (⟨"", "", ""⟩, ⟨#[]⟩, 0, none), (⟨"", "", ""⟩, ⟨#[]⟩, 0, none), (⟨"", "", ""⟩, ⟨#[]⟩, 0, none), (⟨"", "", ""⟩, ⟨#[]⟩, 0, none), (⟨"", "", ""⟩, ⟨#[]⟩, 0, none), (⟨"", "", ""⟩, ⟨#[]⟩, 0, none), (⟨"", "", ""⟩, ⟨#[]⟩, 0, none), (⟨"", "", ""⟩, ⟨#[]⟩, 0, none), (⟨"", "", ""⟩, ⟨#[]⟩, 0, none), (⟨"", "", ""⟩, ⟨#[]⟩, 0, none), (⟨"", "", ""⟩, ⟨#[]⟩, 0, none), (⟨"", "", ""⟩, ⟨#[]⟩, 0, none), (⟨"", "", ""⟩, ⟨#[]⟩, 0, none), (⟨"", "", ""⟩, ⟨#[]⟩, 0, none), (⟨"", "", ""⟩, ⟨#[]⟩, 0, none), (⟨"", "", ""⟩, ⟨#[]⟩, 0, none), (⟨"", "", ""⟩, ⟨#[]⟩, 0, none), (⟨"", "", ""⟩, ⟨#[]⟩, 0, none), (⟨"", "", ""⟩, ⟨#[]⟩, 0, none), (⟨"", "", ""⟩, ⟨#[]⟩, 0, none), (⟨"", "", ""⟩, ⟨#[]⟩, 0, none), (⟨"", "", ""⟩, ⟨#[]⟩, 0, none), (⟨"", "", ""⟩, ⟨#[]⟩, 0, none), (⟨"", "", ""⟩, ⟨#[]⟩, 0, none), (⟨"", "", ""⟩, ⟨#[]⟩, 0, none), (⟨"", "", ""⟩, ⟨#[]⟩, 0, none), (⟨"", "", ""⟩, ⟨#[]⟩, 0, none), (⟨"", "", ""⟩, ⟨#[]⟩, 0, none), (⟨"", "", ""⟩, ⟨#[]⟩, 0, none), (⟨"", "", ""⟩, ⟨#[]⟩, 0, none), (⟨"", "", ""⟩, ⟨#[]⟩, 0, none), (⟨"", "", ""⟩, ⟨#[]⟩, 0, none), (⟨"", "", ""⟩, ⟨#[]⟩, 0, none), (⟨"", "", ""⟩, ⟨#[]⟩, 0, none), (⟨"", "", ""⟩, ⟨#[]⟩, 0, none), (⟨"", "", ""⟩, ⟨#[]⟩, 0, none), (⟨"", "", ""⟩, ⟨#[]⟩, 0, none), (⟨"", "", ""⟩, ⟨#[]⟩, 0, none), (⟨"", "", ""⟩, ⟨#[]⟩, 0, none), (⟨"", "", ""⟩, ⟨#[]⟩, 0, none), (⟨"", "", ""⟩, ⟨#[]⟩, 0, none), (⟨"", "", ""⟩, ⟨#[]⟩, 0, none), (⟨"", "", ""⟩, ⟨#[]⟩, 0, none), (yJ6_bitCount_0f7a4, cJ6_bitCount_0f7a4, 1, some .int), (yL_law, cL_law, 28, some .boolean)]
/-- places of a method's words: code, initialized; then static, or instanceMethod and selects -/
def mws_ : List (List Nat) := [[341, 26, 339, 340], [], [423, 26, 421, 422], [437, 26, 435, 436], [441, 26, 439, 440], [462, 26, 460, 461], [447, 26, 445, 446], [454, 26, 452, 453], [546, 26, 544, 545], [599, 26, 597, 598], [582, 26, 580, 581], [568, 26, 566, 567], [], [330, 21, 328, 329], [479, 21, 477, 478], [], [], [], [], [], [140, 12, 138, 139], [165, 12, 163, 164], [196, 12, 194, 195], [188, 12, 186, 187], [192, 12, 190, 191], [182, 12, 180, 181], [208, 12, 206, 207], [200, 12, 198, 199], [204, 12, 202, 203], [261, 12, 259, 260], [276, 12, 274, 275], [292, 12, 290, 291], [305, 12, 303, 304], [318, 12, 316, 317], [266, 12, 264, 265], [297, 12, 295, 296], [174, 16, 172, 173], [272, 16, 270, 271], [281, 16, 279, 280], [301, 16, 299, 300], [314, 16, 312, 313], [322, 16, 320, 321], [326, 16, 324, 325], [355, 16, 353, 354], [367, 16, 365, 366], [404, 16, 402, 403], [388, 16, 386, 387], [595, 16, 593, 594], [], [346, 16, 344, 345], [337, 16, 335, 336], [458, 16, 456, 457], [431, 16, 429, 430], [400, 16, 398, 399], [550, 16, 548, 549], [396, 16, 394, 395], [371, 16, 369, 370], [], [578, 16, 576, 577], [], [], [], [], [], [], [], [], [135, 2, 133, 134], [154, 2, 152, 153], [158, 2, 156, 157], [], [350, 2, 348, 349], [359, 2, 357, 358], [603, 2, 601, 602], [378, 2, 376, 377], [409, 2, 407, 408], [392, 2, 390, 391], [467, 2, 465, 466], [491, 2, 489, 490], [525, 2, 523, 524], [532, 2, 530, 531], [554, 2, 552, 553], [542, 2, 540, 541], [559, 2, 557, 558], [537, 2, 535, 536], [591, 2, 589, 590], [], [], [], [], [], [564, 2, 562, 563], [], [], [], [], [574, 2, 572, 573], [], [], [], [], [], [475, 2, 473, 474], [487, 2, 485, 486], [], [], [], [], [511, 2, 509, 510], [268, 2, 267], [587, 2, 586], [415, 2, 413, 414], [471, 2, 469, 470], [], [], [], [], [], [], [], [521, 2, 519, 520], [118, 101, 117], [123, 101, 122], [130, 101, 129], [127, 101, 126], [150, 101, 149], [147, 101, 146], [374, 101, 373], [144, 101, 143], [102, 101, 100], [498, 101, 497], [507, 101, 506], [504, 101, 503], [501, 101, 500], [528, 101, 527], [495, 101, 494], [], [], [], [], [], [], [], [], [], [], [], [], [], [], [], [], [], [], [], [], [], [], [], [], [], [], [], [], [], [], [], [], [], [], [], [], [], [], [], [], [], [], [], [], [], [], [], [], [], [], [], [], [], [], [], [], [], [], [], [], [], [], [], [], [], [], [], [], [], [], [], [], [], [], [], [], [], [], [], [], [], [285, 284, 283], []]
/-- private methods of other classes of the nest -/
def nst_ : List (String × Nat × MethodName × String) := [(RX3, 145, yX6_isIn, RX6), (RX4, 80, yX6_isIn, RX6), (RX0, 57, yX6_isIn, RX6)]
def sdx_ : List Nat := [78, 87, 92, 101, 103, 105, 107, 121, 162, 163, 164, 165]
def stx_ : List String := ["thing", "means", "word", "plain", "last", "careful", "proud", "not", "sees", "fears", "unlike", "chance"]
def fkd (c k : Nat) : Nat := (fkt.getD c []).getD k 0
def wsF : List (List Jvm.Cond) := [wsL_law_r1, wsL_law_r2, wsL_law_r3, wsL_law_r4, wsL_law_r5, wsL_law_r6, wsL_law_r7, wsL_law_r8, wsL_law_r9, wsL_law_r10, wsL_law_r11, wsL_law_r12, wsL_law_r13, wsL_law_r14, wsL_law_r15, wsL_law_r16, wsL_law_r17, wsL_law_r18, wsL_law_r19, wsL_law_r20, wsL_law_r21, wsL_law_r22, wsL_law_r23, wsL_law_r24, wsL_law_r25, wsL_law_r26]
theorem wsF_in : wsL_law = wsF.flatten ++ (wsX60 ++ (wsX30 ++ (wsX40 ++ (wsX10 ++ (wsX00 ++ (wsX50 ++ wsX20)))))) := by
  simp only [wsL_law, wsF, List.flatten_cons, List.flatten_nil, List.append_assoc, List.append_nil]
/-- the word at place i, 24 to a row -/
def wq (i : Nat) (w : Jvm.Cond) : Bool := decide ((wsF.getD (i / 24) [])[i % 24]? = some w)
def rcl (c : Nat) : vw_C := vwCl.getD c ("", fun _ => ("", "", "", false), 0)
def mcl (x : Nat) : MethodName × ByteArray × Nat × Option FieldType := mts_.getD x (⟨"", "", ""⟩, ⟨#[]⟩, 0, none)
def fdw (c k : Nat) : String × String × String × Bool := (rcl c).2.1 k
def nPar (y : MethodName) : Option Nat := (parseMethodDescriptor y.desc).map fun d => d.parameters.length
def ckL (own : String) (i x y z : Nat) (k : Int32) (n : Nat) : Bool :=
  bif x.blt 1000 then
    decide (x < 218 ∧ (mcl x).2.2.1 = y / 16 % 64 ∧ nPar (mcl x).1 = some n ∧ (z = 0 ↔ (mcl x).2.2.2 = none)) &&
      (bif decide (k < 0) then decide (nst_[(-1 - k).toNatClampNeg]? = some (own, i, (mcl x).1, RX6)) else wq k.toNatClampNeg (.methodLink own i (mcl x).1))
  else
    match x with
    | 1000 => decide (y % 16 = 5 ∧ z = 0) && wq k.toNatClampNeg (.methodLink own i arraycopyName)
    | 1003 => decide (y % 16 = 1 ∧ z = 1 ∧ y / 1024 = 9) && wq k.toNatClampNeg (.methodLink own i yJ0_length_8abf5)
    | 1004 => decide (y % 16 = 2 ∧ z = 1 ∧ y / 1024 = 9) && wq k.toNatClampNeg (.methodLink own i yJ0_charAt_5068e)
    | _ => false
def ckS (pc : Nat) (d lo hi : Int) (offs : Array Int) (t : List (Int32 × Nat) × Nat) : Bool :=
  decide (t.1.length = offs.size ∧ hi - lo + 1 = (offs.size : Int) ∧ (pc : Int) + d = (t.2 : Int)) &&
    (List.range offs.size).all fun j => decide ((t.1.getD j (0, 0)).1.toInt = lo + (j : Int) ∧ (pc : Int) + offs.getD j 0 = ((t.1.getD j (0, 0)).2 : Int))
def ckO (pc : Nat) (d : Int) (ps : List (Int × Int)) (t : List (Int32 × Nat) × Nat) : Bool :=
  decide ((pc : Int) + d = (t.2 : Int) ∧ ps.map (fun q => (q.1, (pc : Int) + q.2)) = t.1.map (fun q => (q.1.toInt, (q.2 : Int)))) && (ps.zip (ps.drop 1)).all (fun (a, next) => a.1 < next.1)
/-- what an instruction's row in the tables claims of the class's pool and of the method -/
def chk2 (own : String) (ml : Nat) (rt : Option FieldType) (pc : Nat) (e : E_) : Bool :=
  match e with
  | (ins, len, x, y, z, k, kl) =>
    match ins with
    | .iconst n => decide (len = 1) && decide (Int32.ofInt n = k)
    | .bipush n => decide (len = 2) && decide ((Int8.ofInt n).toInt32 = k)
    | .sipush n => decide (len = 3) && decide ((Int16.ofInt n).toInt32 = k)
    | .lconst n => decide (len = 1) && decide (Int64.ofNat (n : Nat) = kl)
    | .ldc i => decide (len = 2) && (bif z.beq 0 then wq y (.constant own i k) else decide (own = RX3 ∧ x < 12 ∧ sdx_.getD x 0 = i))
    | .ldc_w i => decide (len = 3) && wq y (.constant own i k)
    | .ldc2_w i => decide (len = 3) && wq y (.constantLong own i kl)
    | .iload_n n => decide (len = 1) && decide ((n : Nat) = x)
    | .lload_n n => decide (len = 1) && decide ((n : Nat) = x)
    | .aload_n n => decide (len = 1) && decide ((n : Nat) = x)
    | .iload i => decide (len = 2) && decide (i = x)
    | .lload i => decide (len = 2) && decide (i = x)
    | .aload i => decide (len = 2) && decide (i = x)
    | .istore_n n => decide (len = 1) && decide ((n : Nat) = x ∧ x < ml)
    | .astore_n n => decide (len = 1) && decide ((n : Nat) = x ∧ x < ml)
    | .lstore_n n => decide (len = 1) && decide ((n : Nat) = x ∧ x + 1 < ml)
    | .istore i => decide (len = 2) && decide (i = x ∧ x < ml)
    | .astore i => decide (len = 2) && decide (i = x ∧ x < ml)
    | .lstore i => decide (len = 2) && decide (i = x ∧ x + 1 < ml)
    | .iinc i n => decide (len = 3) && decide (i = x ∧ x < ml ∧ Int32.ofInt n = k)
    | .ifCond _ o => decide (len = 3) && decide ((pc : Int) + o = (x : Int))
    | .if_icmp _ o => decide (len = 3) && decide ((pc : Int) + o = (x : Int))
    | .goto o => decide (len = 3) && decide ((pc : Int) + o = (x : Int))
    | .tableswitch d lo hi offs => ckS pc d lo hi offs (swT_ x)
    | .lookupswitch d ps => ckO pc d ps.toList (swT_ x)
    | .getfield i => decide (len = 3) && decide (x < 7 ∧ y < (rcl x).2.2 ∧ z = fkd x y) && wq k.toNatClampNeg (.fieldLink own i (fdw x y).1 (fdw x y).2.1 (fdw x y).2.2.1)
    | .putfield i => decide (len = 3) && decide (x < 7 ∧ y < (rcl x).2.2 ∧ (fdw x y).2.2.2 = false) && wq k.toNatClampNeg (.fieldLink own i (fdw x y).1 (fdw x y).2.1 (fdw x y).2.2.1) &&
        (match z with
        | 0 => decide (fkd x y = 0 ∧ parseFieldDescriptor (fdw x y).2.2.1 = some .int)
        | 1 => decide (fkd x y = 0 ∧ parseFieldDescriptor (fdw x y).2.2.1 = some .boolean)
        | 2 => decide (fkd x y = 2 ∧ parseFieldDescriptor (fdw x y).2.2.1 = some (.object RX4))
        | _ => false)
    | .invokevirtual i => decide (len = 3) && decide (1 ≤ y % 16) && ckL own i x y z k (y % 16 - 1) && (bif x.blt 1000 then decide (y / 1024 < 7 ∧ (mcl x).1.cls = (rcl (y / 1024)).1 ∧ (mws_.getD x []).length = 4) else decide (1003 ≤ x))
    | .invokestatic i => decide (len = 3) && ckL own i x y z k (y % 16) && (bif x.blt 1000 then decide ((mws_.getD x []).length = 3) else decide (x < 1003))
    | .ireturn => decide (len = 1) && decide ((z = 0 ∧ rt = some .int) ∨ (z = 1 ∧ rt = some .boolean))
    | .return_ => decide (len = 1) && decide (rt = none)
    | .newarray t => decide (len = 2) && decide (t = .int ∧ pc = 305 ∧ ml = 28)
    | _ => decide (len = 1)
def chkE (own : String) (cb : ByteArray) (ml : Nat) (rt : Option FieldType) (q : Nat × E_) : Bool :=
  (match decode cb q.1 with
  | .ok (i, l) => decide (i = q.2.1 ∧ (l = q.2.2.1))
  | _ => false) && chk2 own ml rt q.1 q.2
def mwk (x : Nat) : Bool := decide (plainName (mcl x).1.cls = true ∧ (mcl x).1.cls ≠ "java/lang/invoke/MethodHandle" ∧ (mcl x).1.cls ≠ "java/lang/invoke/VarHandle" ∧ (mcl x).2.2.1 ≤ 20) && (match mws_.getD x [] with
  | [a, b, c] => wq a (.code (mcl x).1 (mcl x).2.1 (mcl x).2.2.1 (mcl x).2.2.2) && wq b (.initialized (mcl x).1.cls) && wq c (.static (mcl x).1)
  | [a, b, c, e] => wq a (.code (mcl x).1 (mcl x).2.1 (mcl x).2.2.1 (mcl x).2.2.2) && wq b (.initialized (mcl x).1.cls) && wq c (.instanceMethod (mcl x).1) && wq e (.selects (mcl x).1.cls (mcl x).1 (mcl x).1)
  | _ => false)
def chkM (x : Nat) (rt : Option FieldType) : Bool := (tbs_.getD x []).all fun l => l.all fun q => chkE (mcl x).1.cls (mcl x).2.1 (mcl x).2.2.1 rt q

/-- a method that is there keeps its words; one that isn't has no rows -/
def mwe (x : Nat) : Bool := bif (mws_.getD x []).isEmpty then (tbs_.getD x []).isEmpty else mwk x
end
section
def chkR (x i : Nat) (rt : Option FieldType) : Bool := ((tbs_.getD x []).getD i []).all fun q => chkE (mcl x).1.cls (mcl x).2.1 (mcl x).2.2.1 rt q
theorem chkR_all {x : Nat} {rt : Option FieldType} {n : Nat} (hn : (tbs_.getD x []).length ≤ n) (h : ∀ i, i < n → chkR x i rt = true) : chkM x rt = true := by
  unfold chkM
  rw [List.all_eq_true]
  intro l hl
  obtain ⟨i, hi⟩ := List.getElem?_of_mem hl
  have h1 := h i (Nat.lt_of_lt_of_le (List.getElem?_eq_some_iff.mp hi).1 hn)
  unfold chkR at h1
  rw [List.getD_eq_getElem?_getD, hi] at h1
  exact h1
set_option maxRecDepth 20000 in
theorem ck_0 : chkM 0 none = true := by decide +kernel
set_option maxRecDepth 20000 in
theorem ck_1 : chkM 1 none = true := by decide +kernel
set_option maxRecDepth 20000 in
theorem ck_2 : chkM 2 (some .boolean) = true := by decide +kernel
set_option maxRecDepth 20000 in
theorem ck_3 : chkM 3 none = true := by decide +kernel
set_option maxRecDepth 20000 in
theorem ck_4 : chkM 4 (some .boolean) = true := by decide +kernel
set_option maxRecDepth 20000 in
theorem ck_5 : chkM 5 none = true := by decide +kernel
set_option maxRecDepth 20000 in
theorem ck_6 : chkM 6 (some .int) = true := by decide +kernel
set_option maxRecDepth 20000 in
theorem ck_7 : chkM 7 (some .int) = true := by decide +kernel
set_option maxRecDepth 20000 in
theorem ck_8 : chkM 8 (some .boolean) = true := by decide +kernel
set_option maxRecDepth 20000 in
theorem ck_9 : chkM 9 (some .boolean) = true := by decide +kernel
set_option maxRecDepth 20000 in
theorem ck_10 : chkM 10 (some .int) = true := by decide +kernel
set_option maxRecDepth 20000 in
theorem ck_11 : chkM 11 (some .int) = true := by decide +kernel
set_option maxRecDepth 20000 in
theorem ck_12 : chkM 12 none = true := by decide +kernel
set_option maxRecDepth 20000 in
theorem ck_13 : chkM 13 none = true := by decide +kernel
set_option maxRecDepth 20000 in
theorem ck_14 : chkM 14 none = true := by decide +kernel
set_option maxRecDepth 20000 in
theorem ck_15 : chkM 15 none = true := by decide +kernel
set_option maxRecDepth 20000 in
theorem ck_16 : chkM 16 none = true := by decide +kernel
set_option maxRecDepth 20000 in
theorem ck_17 : chkM 17 none = true := by decide +kernel
set_option maxRecDepth 20000 in
theorem ck_18 : chkM 18 none = true := by decide +kernel
set_option maxRecDepth 20000 in
theorem ck_19 : chkM 19 none = true := by decide +kernel
set_option maxRecDepth 20000 in
theorem ck_20 : chkM 20 none = true := by decide +kernel
set_option maxRecDepth 20000 in
theorem ck_21 : chkM 21 (some .boolean) = true := by decide +kernel
set_option maxRecDepth 20000 in
theorem ck_22 : chkM 22 none = true := by decide +kernel
set_option maxRecDepth 20000 in
theorem ck_23 : chkM 23 (some .int) = true := by decide +kernel
set_option maxRecDepth 20000 in
theorem ck_24 : chkM 24 (some .int) = true := by decide +kernel
set_option maxRecDepth 20000 in
theorem ck_25 : chkM 25 none = true := by decide +kernel
set_option maxRecDepth 20000 in
theorem ck_26 : chkM 26 (some .boolean) = true := by decide +kernel
set_option maxRecDepth 20000 in
theorem ck_27 : chkM 27 none = true := by decide +kernel
set_option maxRecDepth 20000 in
theorem ck_28 : chkM 28 (some .int) = true := by decide +kernel
set_option maxRecDepth 20000 in
theorem ck_29 : chkM 29 none = true := by decide +kernel
set_option maxRecDepth 20000 in
theorem ck_30 : chkM 30 none = true := by decide +kernel
set_option maxRecDepth 20000 in
theorem ck_31 : chkM 31 none = true := by decide +kernel
set_option maxRecDepth 20000 in
theorem ck_32 : chkM 32 none = true := by decide +kernel
set_option maxRecDepth 20000 in
theorem ck_33 : chkM 33 (some .int) = true := by decide +kernel
set_option maxRecDepth 20000 in
theorem ck_34 : chkM 34 (some .int) = true := by decide +kernel
set_option maxRecDepth 20000 in
theorem ck_35 : chkM 35 (some .int) = true := by decide +kernel
set_option maxRecDepth 20000 in
theorem ck_36 : chkM 36 none = true := by decide +kernel
set_option maxRecDepth 20000 in
theorem ck_37 : chkM 37 none = true := by decide +kernel
set_option maxRecDepth 20000 in
theorem ck_38 : chkM 38 none = true := by decide +kernel
set_option maxRecDepth 20000 in
theorem ck_39 : chkM 39 none = true := by decide +kernel
set_option maxRecDepth 20000 in
theorem ck_40 : chkM 40 none = true := by decide +kernel
set_option maxRecDepth 20000 in
theorem ck_41 : chkM 41 none = true := by decide +kernel
set_option maxRecDepth 20000 in
theorem ck_42 : chkM 42 none = true := by decide +kernel
set_option maxRecDepth 20000 in
theorem ck_43 : chkM 43 (some .boolean) = true := by decide +kernel
set_option maxRecDepth 20000 in
theorem ck_44 : chkM 44 (some .boolean) = true := by decide +kernel
set_option maxRecDepth 20000 in
theorem ck_45 : chkM 45 (some .boolean) = true := by decide +kernel
set_option maxRecDepth 20000 in
theorem ck_46 : chkM 46 (some .boolean) = true := by decide +kernel
set_option maxRecDepth 20000 in
theorem ck_47 : chkM 47 (some .boolean) = true := by decide +kernel
set_option maxRecDepth 20000 in
theorem ck_48 : chkM 48 none = true := by decide +kernel
set_option maxRecDepth 20000 in
theorem ck_49 : chkM 49 (some .int) = true := by decide +kernel
set_option maxRecDepth 20000 in
theorem ck_50 : chkM 50 (some .int) = true := by decide +kernel
set_option maxRecDepth 20000 in
theorem ck_51 : chkM 51 (some .int) = true := by decide +kernel
set_option maxRecDepth 20000 in
theorem ck_52 : chkM 52 (some .int) = true := by decide +kernel
set_option maxRecDepth 20000 in
theorem ck_53 : chkM 53 (some .int) = true := by decide +kernel
set_option maxRecDepth 20000 in
theorem ck_54 : chkM 54 (some .int) = true := by decide +kernel
end
section
set_option maxRecDepth 20000 in
theorem ck_55 : chkM 55 (some .boolean) = true := by decide +kernel
set_option maxRecDepth 20000 in
theorem ck_56 : chkM 56 (some .int) = true := by decide +kernel
set_option maxRecDepth 20000 in
theorem ck_57 : chkM 57 none = true := by decide +kernel
set_option maxRecDepth 20000 in
theorem ck_58 : chkM 58 (some .int) = true := by decide +kernel
set_option maxRecDepth 20000 in
theorem ck_59 : chkM 59 none = true := by decide +kernel
set_option maxRecDepth 20000 in
theorem ck_60 : chkM 60 none = true := by decide +kernel
set_option maxRecDepth 20000 in
theorem ck_61 : chkM 61 none = true := by decide +kernel
set_option maxRecDepth 20000 in
theorem ck_62 : chkM 62 none = true := by decide +kernel
set_option maxRecDepth 20000 in
theorem ck_63 : chkM 63 none = true := by decide +kernel
set_option maxRecDepth 20000 in
theorem ck_64 : chkM 64 none = true := by decide +kernel
set_option maxRecDepth 20000 in
theorem ck_65 : chkM 65 none = true := by decide +kernel
set_option maxRecDepth 20000 in
theorem ck_66 : chkM 66 none = true := by decide +kernel
set_option maxRecDepth 20000 in
theorem ck_67 : chkM 67 (some .int) = true := by decide +kernel
set_option maxRecDepth 20000 in
theorem ck_68 : chkM 68 (some .int) = true := by decide +kernel
set_option maxRecDepth 20000 in
theorem ck_69 : chkM 69 (some .int) = true := by decide +kernel
set_option maxRecDepth 20000 in
theorem ck_70 : chkM 70 none = true := by decide +kernel
set_option maxRecDepth 20000 in
theorem ck_71 : chkM 71 (some .int) = true := by decide +kernel
set_option maxRecDepth 20000 in
theorem ck_72 : chkM 72 (some .int) = true := by decide +kernel
set_option maxRecDepth 20000 in
theorem ck_73 : chkM 73 (some .int) = true := by decide +kernel
set_option maxRecDepth 20000 in
theorem ck_74 : chkM 74 (some .int) = true := by decide +kernel
set_option maxRecDepth 20000 in
theorem ck_75 : chkM 75 (some .int) = true := by decide +kernel
set_option maxRecDepth 20000 in
theorem ck_76 : chkM 76 (some .int) = true := by decide +kernel
set_option maxRecDepth 20000 in
theorem ck_77 : chkM 77 (some .int) = true := by decide +kernel
set_option maxRecDepth 20000 in
theorem ck_78 : chkM 78 (some .int) = true := by decide +kernel
set_option maxRecDepth 20000 in
theorem ck_79 : chkM 79 (some .int) = true := by decide +kernel
set_option maxRecDepth 20000 in
theorem ck_80 : chkM 80 (some .int) = true := by decide +kernel
set_option maxRecDepth 20000 in
theorem ck_81 : chkM 81 (some .int) = true := by decide +kernel
set_option maxRecDepth 20000 in
theorem ck_82 : chkM 82 (some .int) = true := by decide +kernel
set_option maxRecDepth 20000 in
theorem ck_83 : chkM 83 (some .int) = true := by decide +kernel
set_option maxRecDepth 20000 in
theorem ck_84 : chkM 84 (some .int) = true := by decide +kernel
set_option maxRecDepth 20000 in
theorem ck_85 : chkM 85 (some .int) = true := by decide +kernel
set_option maxRecDepth 20000 in
theorem ck_86 : chkM 86 none = true := by decide +kernel
set_option maxRecDepth 20000 in
theorem ck_87 : chkM 87 none = true := by decide +kernel
set_option maxRecDepth 20000 in
theorem ck_88 : chkM 88 none = true := by decide +kernel
set_option maxRecDepth 20000 in
theorem ck_89 : chkM 89 none = true := by decide +kernel
set_option maxRecDepth 20000 in
theorem ck_90 : chkM 90 none = true := by decide +kernel
set_option maxRecDepth 20000 in
theorem ck_91 : chkM 91 (some .int) = true := by decide +kernel
set_option maxRecDepth 20000 in
theorem ck_92 : chkM 92 none = true := by decide +kernel
set_option maxRecDepth 20000 in
theorem ck_93 : chkM 93 none = true := by decide +kernel
set_option maxRecDepth 20000 in
theorem ck_94 : chkM 94 none = true := by decide +kernel
set_option maxRecDepth 20000 in
theorem ck_95 : chkM 95 none = true := by decide +kernel
set_option maxRecDepth 20000 in
theorem ck_96 : chkM 96 (some .int) = true := by decide +kernel
set_option maxRecDepth 20000 in
theorem ck_97 : chkM 97 none = true := by decide +kernel
set_option maxRecDepth 20000 in
theorem ck_98 : chkM 98 none = true := by decide +kernel
set_option maxRecDepth 20000 in
theorem ck_99 : chkM 99 none = true := by decide +kernel
set_option maxRecDepth 20000 in
theorem ck_100 : chkM 100 none = true := by decide +kernel
set_option maxRecDepth 20000 in
theorem ck_101 : chkM 101 none = true := by decide +kernel
set_option maxRecDepth 20000 in
theorem ck_102 : chkM 102 (some .int) = true := by decide +kernel
set_option maxRecDepth 20000 in
theorem ck_103 : chkM 103 (some .int) = true := by decide +kernel
set_option maxRecDepth 20000 in
theorem ck_104 : chkM 104 none = true := by decide +kernel
set_option maxRecDepth 20000 in
theorem ck_105 : chkM 105 none = true := by decide +kernel
set_option maxRecDepth 20000 in
theorem ck_106 : chkM 106 none = true := by decide +kernel
set_option maxRecDepth 20000 in
theorem ck_107 : chkM 107 none = true := by decide +kernel
set_option maxRecDepth 20000 in
theorem ck_108 : chkM 108 (some .int) = true := by decide +kernel
set_option maxRecDepth 20000 in
theorem ck_109 : chkM 109 (some .boolean) = true := by decide +kernel
set_option maxRecDepth 20000 in
theorem ck_110 : chkM 110 (some .int) = true := by decide +kernel
set_option maxRecDepth 20000 in
theorem ck_111 : chkM 111 none = true := by decide +kernel
set_option maxRecDepth 20000 in
theorem ck_112 : chkM 112 none = true := by decide +kernel
set_option maxRecDepth 20000 in
theorem ck_113 : chkM 113 none = true := by decide +kernel
set_option maxRecDepth 20000 in
theorem ck_114 : chkM 114 none = true := by decide +kernel
end
section
set_option maxRecDepth 20000 in
theorem ck_115 : chkM 115 none = true := by decide +kernel
set_option maxRecDepth 20000 in
theorem ck_116 : chkM 116 none = true := by decide +kernel
set_option maxRecDepth 20000 in
theorem ck_117 : chkM 117 none = true := by decide +kernel
set_option maxRecDepth 20000 in
theorem ck_118 : chkM 118 none = true := by decide +kernel
set_option maxRecDepth 20000 in
theorem ck_119 : chkM 119 none = true := by decide +kernel
set_option maxRecDepth 20000 in
theorem ck_120 : chkM 120 (some .int) = true := by decide +kernel
set_option maxRecDepth 20000 in
theorem ck_121 : chkM 121 (some .int) = true := by decide +kernel
set_option maxRecDepth 20000 in
theorem ck_122 : chkM 122 (some .int) = true := by decide +kernel
set_option maxRecDepth 20000 in
theorem ck_123 : chkM 123 none = true := by decide +kernel
set_option maxRecDepth 20000 in
theorem ck_124 : chkM 124 none = true := by decide +kernel
set_option maxRecDepth 20000 in
theorem ck_125 : chkM 125 (some .boolean) = true := by decide +kernel
set_option maxRecDepth 20000 in
theorem ck_126 : chkM 126 none = true := by decide +kernel
set_option maxRecDepth 20000 in
theorem ck_127 : chkM 127 (some .int) = true := by decide +kernel
end
section
set_option maxRecDepth 20000 in
theorem ck_128 : chkM 128 none = true := by decide +kernel
set_option maxRecDepth 20000 in
theorem ck129r_0 : chkR 129 0 (some .boolean) = true := by decide +kernel
set_option maxRecDepth 20000 in
theorem ck129r_1 : chkR 129 1 (some .boolean) = true := by decide +kernel
set_option maxRecDepth 20000 in
theorem ck129r_2 : chkR 129 2 (some .boolean) = true := by decide +kernel
set_option maxRecDepth 20000 in
theorem ck129r_3 : chkR 129 3 (some .boolean) = true := by decide +kernel
set_option maxRecDepth 20000 in
theorem ck129r_4 : chkR 129 4 (some .boolean) = true := by decide +kernel
set_option maxRecDepth 20000 in
theorem ck129r_5 : chkR 129 5 (some .boolean) = true := by decide +kernel
set_option maxRecDepth 20000 in
theorem ck129r_6 : chkR 129 6 (some .boolean) = true := by decide +kernel
set_option maxRecDepth 20000 in
theorem ck129r_7 : chkR 129 7 (some .boolean) = true := by decide +kernel
set_option maxRecDepth 20000 in
theorem ck129r_8 : chkR 129 8 (some .boolean) = true := by decide +kernel
set_option maxRecDepth 20000 in
theorem ck129r_9 : chkR 129 9 (some .boolean) = true := by decide +kernel
set_option maxRecDepth 20000 in
theorem ck129r_10 : chkR 129 10 (some .boolean) = true := by decide +kernel
set_option maxRecDepth 20000 in
theorem ck129r_11 : chkR 129 11 (some .boolean) = true := by decide +kernel
set_option maxRecDepth 20000 in
theorem ck129r_12 : chkR 129 12 (some .boolean) = true := by decide +kernel
set_option maxRecDepth 20000 in
theorem ck129r_13 : chkR 129 13 (some .boolean) = true := by decide +kernel
set_option maxRecDepth 20000 in
theorem ck129r_14 : chkR 129 14 (some .boolean) = true := by decide +kernel
set_option maxRecDepth 20000 in
theorem ck129r_15 : chkR 129 15 (some .boolean) = true := by decide +kernel
set_option maxRecDepth 20000 in
theorem ck129r_16 : chkR 129 16 (some .boolean) = true := by decide +kernel
set_option maxRecDepth 20000 in
theorem ck129r_17 : chkR 129 17 (some .boolean) = true := by decide +kernel
set_option maxRecDepth 20000 in
theorem ck129r_18 : chkR 129 18 (some .boolean) = true := by decide +kernel
set_option maxRecDepth 20000 in
theorem ck129r_19 : chkR 129 19 (some .boolean) = true := by decide +kernel
set_option maxRecDepth 20000 in
theorem ck129r_20 : chkR 129 20 (some .boolean) = true := by decide +kernel
set_option maxRecDepth 20000 in
theorem ck129r_21 : chkR 129 21 (some .boolean) = true := by decide +kernel
set_option maxRecDepth 20000 in
theorem ck129r_22 : chkR 129 22 (some .boolean) = true := by decide +kernel
set_option maxRecDepth 20000 in
theorem ck129r_23 : chkR 129 23 (some .boolean) = true := by decide +kernel
set_option maxRecDepth 20000 in
theorem ck129r_24 : chkR 129 24 (some .boolean) = true := by decide +kernel
set_option maxRecDepth 20000 in
theorem ck129r_25 : chkR 129 25 (some .boolean) = true := by decide +kernel
set_option maxRecDepth 20000 in
theorem ck129r_26 : chkR 129 26 (some .boolean) = true := by decide +kernel
set_option maxRecDepth 20000 in
theorem ck129r_27 : chkR 129 27 (some .boolean) = true := by decide +kernel
set_option maxRecDepth 20000 in
theorem ck129r_28 : chkR 129 28 (some .boolean) = true := by decide +kernel
set_option maxRecDepth 20000 in
theorem ck129r_29 : chkR 129 29 (some .boolean) = true := by decide +kernel
set_option maxRecDepth 20000 in
theorem ck129rw_0 : ∀ a, a < 0 → chkR 129 a (some .boolean) = true := fun a h => absurd h (Nat.not_lt_zero a)
set_option maxRecDepth 20000 in
theorem ck129rw_1 : ∀ a, a < 1 → chkR 129 a (some .boolean) = true := lt_s ck129rw_0 ck129r_0
set_option maxRecDepth 20000 in
theorem ck129rw_2 : ∀ a, a < 2 → chkR 129 a (some .boolean) = true := lt_s ck129rw_1 ck129r_1
set_option maxRecDepth 20000 in
theorem ck129rw_3 : ∀ a, a < 3 → chkR 129 a (some .boolean) = true := lt_s ck129rw_2 ck129r_2
set_option maxRecDepth 20000 in
theorem ck129rw_4 : ∀ a, a < 4 → chkR 129 a (some .boolean) = true := lt_s ck129rw_3 ck129r_3
set_option maxRecDepth 20000 in
theorem ck129rw_5 : ∀ a, a < 5 → chkR 129 a (some .boolean) = true := lt_s ck129rw_4 ck129r_4
set_option maxRecDepth 20000 in
theorem ck129rw_6 : ∀ a, a < 6 → chkR 129 a (some .boolean) = true := lt_s ck129rw_5 ck129r_5
set_option maxRecDepth 20000 in
theorem ck129rw_7 : ∀ a, a < 7 → chkR 129 a (some .boolean) = true := lt_s ck129rw_6 ck129r_6
set_option maxRecDepth 20000 in
theorem ck129rw_8 : ∀ a, a < 8 → chkR 129 a (some .boolean) = true := lt_s ck129rw_7 ck129r_7
set_option maxRecDepth 20000 in
theorem ck129rw_9 : ∀ a, a < 9 → chkR 129 a (some .boolean) = true := lt_s ck129rw_8 ck129r_8
set_option maxRecDepth 20000 in
theorem ck129rw_10 : ∀ a, a < 10 → chkR 129 a (some .boolean) = true := lt_s ck129rw_9 ck129r_9
set_option maxRecDepth 20000 in
theorem ck129rw_11 : ∀ a, a < 11 → chkR 129 a (some .boolean) = true := lt_s ck129rw_10 ck129r_10
set_option maxRecDepth 20000 in
theorem ck129rw_12 : ∀ a, a < 12 → chkR 129 a (some .boolean) = true := lt_s ck129rw_11 ck129r_11
set_option maxRecDepth 20000 in
theorem ck129rw_13 : ∀ a, a < 13 → chkR 129 a (some .boolean) = true := lt_s ck129rw_12 ck129r_12
set_option maxRecDepth 20000 in
theorem ck129rw_14 : ∀ a, a < 14 → chkR 129 a (some .boolean) = true := lt_s ck129rw_13 ck129r_13
set_option maxRecDepth 20000 in
theorem ck129rw_15 : ∀ a, a < 15 → chkR 129 a (some .boolean) = true := lt_s ck129rw_14 ck129r_14
set_option maxRecDepth 20000 in
theorem ck129rw_16 : ∀ a, a < 16 → chkR 129 a (some .boolean) = true := lt_s ck129rw_15 ck129r_15
set_option maxRecDepth 20000 in
theorem ck129rw_17 : ∀ a, a < 17 → chkR 129 a (some .boolean) = true := lt_s ck129rw_16 ck129r_16
set_option maxRecDepth 20000 in
theorem ck129rw_18 : ∀ a, a < 18 → chkR 129 a (some .boolean) = true := lt_s ck129rw_17 ck129r_17
set_option maxRecDepth 20000 in
theorem ck129rw_19 : ∀ a, a < 19 → chkR 129 a (some .boolean) = true := lt_s ck129rw_18 ck129r_18
set_option maxRecDepth 20000 in
theorem ck129rw_20 : ∀ a, a < 20 → chkR 129 a (some .boolean) = true := lt_s ck129rw_19 ck129r_19
set_option maxRecDepth 20000 in
theorem ck129rw_21 : ∀ a, a < 21 → chkR 129 a (some .boolean) = true := lt_s ck129rw_20 ck129r_20
set_option maxRecDepth 20000 in
theorem ck129rw_22 : ∀ a, a < 22 → chkR 129 a (some .boolean) = true := lt_s ck129rw_21 ck129r_21
set_option maxRecDepth 20000 in
theorem ck129rw_23 : ∀ a, a < 23 → chkR 129 a (some .boolean) = true := lt_s ck129rw_22 ck129r_22
set_option maxRecDepth 20000 in
theorem ck129rw_24 : ∀ a, a < 24 → chkR 129 a (some .boolean) = true := lt_s ck129rw_23 ck129r_23
set_option maxRecDepth 20000 in
theorem ck129rw_25 : ∀ a, a < 25 → chkR 129 a (some .boolean) = true := lt_s ck129rw_24 ck129r_24
set_option maxRecDepth 20000 in
theorem ck129rw_26 : ∀ a, a < 26 → chkR 129 a (some .boolean) = true := lt_s ck129rw_25 ck129r_25
set_option maxRecDepth 20000 in
theorem ck129rw_27 : ∀ a, a < 27 → chkR 129 a (some .boolean) = true := lt_s ck129rw_26 ck129r_26
set_option maxRecDepth 20000 in
theorem ck129rw_28 : ∀ a, a < 28 → chkR 129 a (some .boolean) = true := lt_s ck129rw_27 ck129r_27
set_option maxRecDepth 20000 in
theorem ck129rw_29 : ∀ a, a < 29 → chkR 129 a (some .boolean) = true := lt_s ck129rw_28 ck129r_28
set_option maxRecDepth 20000 in
theorem ck129rw_30 : ∀ a, a < 30 → chkR 129 a (some .boolean) = true := lt_s ck129rw_29 ck129r_29
set_option maxRecDepth 20000 in
theorem ck_129 : chkM 129 (some .boolean) = true := chkR_all (n := 30) (by decide +kernel) ck129rw_30
set_option maxRecDepth 20000 in
theorem ck_130 : chkM 130 none = true := by decide +kernel
set_option maxRecDepth 20000 in
theorem ck_131 : chkM 131 (some .int) = true := by decide +kernel
set_option maxRecDepth 20000 in
theorem ck132r_0 : chkR 132 0 none = true := by decide +kernel
set_option maxRecDepth 20000 in
theorem ck132r_1 : chkR 132 1 none = true := by decide +kernel
set_option maxRecDepth 20000 in
theorem ck132r_2 : chkR 132 2 none = true := by decide +kernel
set_option maxRecDepth 20000 in
theorem ck132r_3 : chkR 132 3 none = true := by decide +kernel
set_option maxRecDepth 20000 in
theorem ck132r_4 : chkR 132 4 none = true := by decide +kernel
set_option maxRecDepth 20000 in
theorem ck132r_5 : chkR 132 5 none = true := by decide +kernel
set_option maxRecDepth 20000 in
theorem ck132r_6 : chkR 132 6 none = true := by decide +kernel
set_option maxRecDepth 20000 in
theorem ck132r_7 : chkR 132 7 none = true := by decide +kernel
set_option maxRecDepth 20000 in
theorem ck132r_8 : chkR 132 8 none = true := by decide +kernel
set_option maxRecDepth 20000 in
theorem ck132r_9 : chkR 132 9 none = true := by decide +kernel
set_option maxRecDepth 20000 in
theorem ck132r_10 : chkR 132 10 none = true := by decide +kernel
set_option maxRecDepth 20000 in
theorem ck132r_11 : chkR 132 11 none = true := by decide +kernel
set_option maxRecDepth 20000 in
theorem ck132r_12 : chkR 132 12 none = true := by decide +kernel
set_option maxRecDepth 20000 in
theorem ck132rw_0 : ∀ a, a < 0 → chkR 132 a none = true := fun a h => absurd h (Nat.not_lt_zero a)
set_option maxRecDepth 20000 in
theorem ck132rw_1 : ∀ a, a < 1 → chkR 132 a none = true := lt_s ck132rw_0 ck132r_0
set_option maxRecDepth 20000 in
theorem ck132rw_2 : ∀ a, a < 2 → chkR 132 a none = true := lt_s ck132rw_1 ck132r_1
set_option maxRecDepth 20000 in
theorem ck132rw_3 : ∀ a, a < 3 → chkR 132 a none = true := lt_s ck132rw_2 ck132r_2
set_option maxRecDepth 20000 in
theorem ck132rw_4 : ∀ a, a < 4 → chkR 132 a none = true := lt_s ck132rw_3 ck132r_3
set_option maxRecDepth 20000 in
theorem ck132rw_5 : ∀ a, a < 5 → chkR 132 a none = true := lt_s ck132rw_4 ck132r_4
set_option maxRecDepth 20000 in
theorem ck132rw_6 : ∀ a, a < 6 → chkR 132 a none = true := lt_s ck132rw_5 ck132r_5
set_option maxRecDepth 20000 in
theorem ck132rw_7 : ∀ a, a < 7 → chkR 132 a none = true := lt_s ck132rw_6 ck132r_6
set_option maxRecDepth 20000 in
theorem ck132rw_8 : ∀ a, a < 8 → chkR 132 a none = true := lt_s ck132rw_7 ck132r_7
set_option maxRecDepth 20000 in
theorem ck132rw_9 : ∀ a, a < 9 → chkR 132 a none = true := lt_s ck132rw_8 ck132r_8
set_option maxRecDepth 20000 in
theorem ck132rw_10 : ∀ a, a < 10 → chkR 132 a none = true := lt_s ck132rw_9 ck132r_9
set_option maxRecDepth 20000 in
theorem ck132rw_11 : ∀ a, a < 11 → chkR 132 a none = true := lt_s ck132rw_10 ck132r_10
set_option maxRecDepth 20000 in
theorem ck132rw_12 : ∀ a, a < 12 → chkR 132 a none = true := lt_s ck132rw_11 ck132r_11
set_option maxRecDepth 20000 in
theorem ck132rw_13 : ∀ a, a < 13 → chkR 132 a none = true := lt_s ck132rw_12 ck132r_12
set_option maxRecDepth 20000 in
theorem ck_132 : chkM 132 none = true := chkR_all (n := 13) (by decide +kernel) ck132rw_13
set_option maxRecDepth 20000 in
theorem ck_133 : chkM 133 (some .int) = true := by decide +kernel
set_option maxRecDepth 20000 in
theorem ck_134 : chkM 134 (some .boolean) = true := by decide +kernel
set_option maxRecDepth 20000 in
theorem ck_135 : chkM 135 none = true := by decide +kernel
set_option maxRecDepth 20000 in
theorem ck_136 : chkM 136 none = true := by decide +kernel
set_option maxRecDepth 20000 in
theorem ck_137 : chkM 137 none = true := by decide +kernel
set_option maxRecDepth 20000 in
theorem ck_138 : chkM 138 none = true := by decide +kernel
set_option maxRecDepth 20000 in
theorem ck_139 : chkM 139 none = true := by decide +kernel
set_option maxRecDepth 20000 in
theorem ck_140 : chkM 140 none = true := by decide +kernel
set_option maxRecDepth 20000 in
theorem ck_141 : chkM 141 none = true := by decide +kernel
set_option maxRecDepth 20000 in
theorem ck_142 : chkM 142 none = true := by decide +kernel
set_option maxRecDepth 20000 in
theorem ck_143 : chkM 143 none = true := by decide +kernel
set_option maxRecDepth 20000 in
theorem ck_144 : chkM 144 none = true := by decide +kernel
set_option maxRecDepth 20000 in
theorem ck_145 : chkM 145 none = true := by decide +kernel
set_option maxRecDepth 20000 in
theorem ck_146 : chkM 146 none = true := by decide +kernel
set_option maxRecDepth 20000 in
theorem ck_147 : chkM 147 none = true := by decide +kernel
set_option maxRecDepth 20000 in
theorem ck_148 : chkM 148 none = true := by decide +kernel
set_option maxRecDepth 20000 in
theorem ck_149 : chkM 149 none = true := by decide +kernel
set_option maxRecDepth 20000 in
theorem ck_150 : chkM 150 none = true := by decide +kernel
set_option maxRecDepth 20000 in
theorem ck_151 : chkM 151 none = true := by decide +kernel
set_option maxRecDepth 20000 in
theorem ck_152 : chkM 152 none = true := by decide +kernel
set_option maxRecDepth 20000 in
theorem ck_153 : chkM 153 none = true := by decide +kernel
set_option maxRecDepth 20000 in
theorem ck_154 : chkM 154 none = true := by decide +kernel
set_option maxRecDepth 20000 in
theorem ck_155 : chkM 155 none = true := by decide +kernel
set_option maxRecDepth 20000 in
theorem ck_156 : chkM 156 none = true := by decide +kernel
set_option maxRecDepth 20000 in
theorem ck_157 : chkM 157 none = true := by decide +kernel
set_option maxRecDepth 20000 in
theorem ck_158 : chkM 158 none = true := by decide +kernel
set_option maxRecDepth 20000 in
theorem ck_159 : chkM 159 none = true := by decide +kernel
set_option maxRecDepth 20000 in
theorem ck_160 : chkM 160 none = true := by decide +kernel
set_option maxRecDepth 20000 in
theorem ck_161 : chkM 161 none = true := by decide +kernel
set_option maxRecDepth 20000 in
theorem ck_162 : chkM 162 none = true := by decide +kernel
set_option maxRecDepth 20000 in
theorem ck_163 : chkM 163 none = true := by decide +kernel
set_option maxRecDepth 20000 in
theorem ck_164 : chkM 164 none = true := by decide +kernel
set_option maxRecDepth 20000 in
theorem ck_165 : chkM 165 none = true := by decide +kernel
set_option maxRecDepth 20000 in
theorem ck_166 : chkM 166 none = true := by decide +kernel
set_option maxRecDepth 20000 in
theorem ck_167 : chkM 167 none = true := by decide +kernel
set_option maxRecDepth 20000 in
theorem ck_168 : chkM 168 none = true := by decide +kernel
set_option maxRecDepth 20000 in
theorem ck_169 : chkM 169 none = true := by decide +kernel
set_option maxRecDepth 20000 in
theorem ck_170 : chkM 170 none = true := by decide +kernel
set_option maxRecDepth 20000 in
theorem ck_171 : chkM 171 none = true := by decide +kernel
set_option maxRecDepth 20000 in
theorem ck_172 : chkM 172 none = true := by decide +kernel
set_option maxRecDepth 20000 in
theorem ck_173 : chkM 173 none = true := by decide +kernel
set_option maxRecDepth 20000 in
theorem ck_174 : chkM 174 none = true := by decide +kernel
set_option maxRecDepth 20000 in
theorem ck_175 : chkM 175 none = true := by decide +kernel
set_option maxRecDepth 20000 in
theorem ck_176 : chkM 176 none = true := by decide +kernel
set_option maxRecDepth 20000 in
theorem ck_177 : chkM 177 none = true := by decide +kernel
set_option maxRecDepth 20000 in
theorem ck_178 : chkM 178 none = true := by decide +kernel
set_option maxRecDepth 20000 in
theorem ck_179 : chkM 179 none = true := by decide +kernel
set_option maxRecDepth 20000 in
theorem ck_180 : chkM 180 none = true := by decide +kernel
set_option maxRecDepth 20000 in
theorem ck_181 : chkM 181 none = true := by decide +kernel
set_option maxRecDepth 20000 in
theorem ck_182 : chkM 182 none = true := by decide +kernel
set_option maxRecDepth 20000 in
theorem ck_183 : chkM 183 none = true := by decide +kernel
set_option maxRecDepth 20000 in
theorem ck_184 : chkM 184 none = true := by decide +kernel
set_option maxRecDepth 20000 in
theorem ck_185 : chkM 185 none = true := by decide +kernel
set_option maxRecDepth 20000 in
theorem ck_186 : chkM 186 none = true := by decide +kernel
set_option maxRecDepth 20000 in
theorem ck_187 : chkM 187 none = true := by decide +kernel
set_option maxRecDepth 20000 in
theorem ck_188 : chkM 188 none = true := by decide +kernel
set_option maxRecDepth 20000 in
theorem ck_189 : chkM 189 none = true := by decide +kernel
set_option maxRecDepth 20000 in
theorem ck_190 : chkM 190 none = true := by decide +kernel
set_option maxRecDepth 20000 in
theorem ck_191 : chkM 191 none = true := by decide +kernel
set_option maxRecDepth 20000 in
theorem ck_192 : chkM 192 none = true := by decide +kernel
set_option maxRecDepth 20000 in
theorem ck_193 : chkM 193 none = true := by decide +kernel
set_option maxRecDepth 20000 in
theorem ck_194 : chkM 194 none = true := by decide +kernel
set_option maxRecDepth 20000 in
theorem ck_195 : chkM 195 none = true := by decide +kernel
set_option maxRecDepth 20000 in
theorem ck_196 : chkM 196 none = true := by decide +kernel
set_option maxRecDepth 20000 in
theorem ck_197 : chkM 197 none = true := by decide +kernel
set_option maxRecDepth 20000 in
theorem ck_198 : chkM 198 none = true := by decide +kernel
set_option maxRecDepth 20000 in
theorem ck_199 : chkM 199 none = true := by decide +kernel
set_option maxRecDepth 20000 in
theorem ck_200 : chkM 200 none = true := by decide +kernel
set_option maxRecDepth 20000 in
theorem ck_201 : chkM 201 none = true := by decide +kernel
set_option maxRecDepth 20000 in
theorem ck_202 : chkM 202 none = true := by decide +kernel
set_option maxRecDepth 20000 in
theorem ck_203 : chkM 203 none = true := by decide +kernel
set_option maxRecDepth 20000 in
theorem ck_204 : chkM 204 none = true := by decide +kernel
set_option maxRecDepth 20000 in
theorem ck_205 : chkM 205 none = true := by decide +kernel
set_option maxRecDepth 20000 in
theorem ck_206 : chkM 206 none = true := by decide +kernel
set_option maxRecDepth 20000 in
theorem ck_207 : chkM 207 none = true := by decide +kernel
set_option maxRecDepth 20000 in
theorem ck_208 : chkM 208 none = true := by decide +kernel
set_option maxRecDepth 20000 in
theorem ck_209 : chkM 209 none = true := by decide +kernel
set_option maxRecDepth 20000 in
theorem ck_210 : chkM 210 none = true := by decide +kernel
set_option maxRecDepth 20000 in
theorem ck_211 : chkM 211 none = true := by decide +kernel
set_option maxRecDepth 20000 in
theorem ck_212 : chkM 212 none = true := by decide +kernel
set_option maxRecDepth 20000 in
theorem ck_213 : chkM 213 none = true := by decide +kernel
set_option maxRecDepth 20000 in
theorem ck_214 : chkM 214 none = true := by decide +kernel
set_option maxRecDepth 20000 in
theorem ck_215 : chkM 215 none = true := by decide +kernel
set_option maxRecDepth 20000 in
theorem ck_216 : chkM 216 none = true := by decide +kernel
set_option maxRecDepth 20000 in
theorem ck_217 : chkM 217 (some .int) = true := by decide +kernel
end
section
set_option maxRecDepth 20000 in
theorem mk_0 : mwe 0 = true := by decide +kernel
set_option maxRecDepth 20000 in
theorem mk_1 : mwe 1 = true := by decide +kernel
set_option maxRecDepth 20000 in
theorem mk_2 : mwe 2 = true := by decide +kernel
set_option maxRecDepth 20000 in
theorem mk_3 : mwe 3 = true := by decide +kernel
set_option maxRecDepth 20000 in
theorem mk_4 : mwe 4 = true := by decide +kernel
set_option maxRecDepth 20000 in
theorem mk_5 : mwe 5 = true := by decide +kernel
set_option maxRecDepth 20000 in
theorem mk_6 : mwe 6 = true := by decide +kernel
set_option maxRecDepth 20000 in
theorem mk_7 : mwe 7 = true := by decide +kernel
set_option maxRecDepth 20000 in
theorem mk_8 : mwe 8 = true := by decide +kernel
set_option maxRecDepth 20000 in
theorem mk_9 : mwe 9 = true := by decide +kernel
set_option maxRecDepth 20000 in
theorem mk_10 : mwe 10 = true := by decide +kernel
set_option maxRecDepth 20000 in
theorem mk_11 : mwe 11 = true := by decide +kernel
set_option maxRecDepth 20000 in
theorem mk_12 : mwe 12 = true := by decide +kernel
set_option maxRecDepth 20000 in
theorem mk_13 : mwe 13 = true := by decide +kernel
set_option maxRecDepth 20000 in
theorem mk_14 : mwe 14 = true := by decide +kernel
set_option maxRecDepth 20000 in
theorem mk_15 : mwe 15 = true := by decide +kernel
set_option maxRecDepth 20000 in
theorem mk_16 : mwe 16 = true := by decide +kernel
set_option maxRecDepth 20000 in
theorem mk_17 : mwe 17 = true := by decide +kernel
set_option maxRecDepth 20000 in
theorem mk_18 : mwe 18 = true := by decide +kernel
set_option maxRecDepth 20000 in
theorem mk_19 : mwe 19 = true := by decide +kernel
set_option maxRecDepth 20000 in
theorem mk_20 : mwe 20 = true := by decide +kernel
set_option maxRecDepth 20000 in
theorem mk_21 : mwe 21 = true := by decide +kernel
set_option maxRecDepth 20000 in
theorem mk_22 : mwe 22 = true := by decide +kernel
set_option maxRecDepth 20000 in
theorem mk_23 : mwe 23 = true := by decide +kernel
set_option maxRecDepth 20000 in
theorem mk_24 : mwe 24 = true := by decide +kernel
set_option maxRecDepth 20000 in
theorem mk_25 : mwe 25 = true := by decide +kernel
set_option maxRecDepth 20000 in
theorem mk_26 : mwe 26 = true := by decide +kernel
set_option maxRecDepth 20000 in
theorem mk_27 : mwe 27 = true := by decide +kernel
set_option maxRecDepth 20000 in
theorem mk_28 : mwe 28 = true := by decide +kernel
set_option maxRecDepth 20000 in
theorem mk_29 : mwe 29 = true := by decide +kernel
set_option maxRecDepth 20000 in
theorem mk_30 : mwe 30 = true := by decide +kernel
set_option maxRecDepth 20000 in
theorem mk_31 : mwe 31 = true := by decide +kernel
set_option maxRecDepth 20000 in
theorem mk_32 : mwe 32 = true := by decide +kernel
set_option maxRecDepth 20000 in
theorem mk_33 : mwe 33 = true := by decide +kernel
set_option maxRecDepth 20000 in
theorem mk_34 : mwe 34 = true := by decide +kernel
set_option maxRecDepth 20000 in
theorem mk_35 : mwe 35 = true := by decide +kernel
set_option maxRecDepth 20000 in
theorem mk_36 : mwe 36 = true := by decide +kernel
set_option maxRecDepth 20000 in
theorem mk_37 : mwe 37 = true := by decide +kernel
set_option maxRecDepth 20000 in
theorem mk_38 : mwe 38 = true := by decide +kernel
set_option maxRecDepth 20000 in
theorem mk_39 : mwe 39 = true := by decide +kernel
set_option maxRecDepth 20000 in
theorem mk_40 : mwe 40 = true := by decide +kernel
set_option maxRecDepth 20000 in
theorem mk_41 : mwe 41 = true := by decide +kernel
set_option maxRecDepth 20000 in
theorem mk_42 : mwe 42 = true := by decide +kernel
set_option maxRecDepth 20000 in
theorem mk_43 : mwe 43 = true := by decide +kernel
set_option maxRecDepth 20000 in
theorem mk_44 : mwe 44 = true := by decide +kernel
set_option maxRecDepth 20000 in
theorem mk_45 : mwe 45 = true := by decide +kernel
set_option maxRecDepth 20000 in
theorem mk_46 : mwe 46 = true := by decide +kernel
set_option maxRecDepth 20000 in
theorem mk_47 : mwe 47 = true := by decide +kernel
set_option maxRecDepth 20000 in
theorem mk_48 : mwe 48 = true := by decide +kernel
set_option maxRecDepth 20000 in
theorem mk_49 : mwe 49 = true := by decide +kernel
set_option maxRecDepth 20000 in
theorem mk_50 : mwe 50 = true := by decide +kernel
set_option maxRecDepth 20000 in
theorem mk_51 : mwe 51 = true := by decide +kernel
set_option maxRecDepth 20000 in
theorem mk_52 : mwe 52 = true := by decide +kernel
set_option maxRecDepth 20000 in
theorem mk_53 : mwe 53 = true := by decide +kernel
set_option maxRecDepth 20000 in
theorem mk_54 : mwe 54 = true := by decide +kernel
set_option maxRecDepth 20000 in
theorem mk_55 : mwe 55 = true := by decide +kernel
set_option maxRecDepth 20000 in
theorem mk_56 : mwe 56 = true := by decide +kernel
set_option maxRecDepth 20000 in
theorem mk_57 : mwe 57 = true := by decide +kernel
set_option maxRecDepth 20000 in
theorem mk_58 : mwe 58 = true := by decide +kernel
set_option maxRecDepth 20000 in
theorem mk_59 : mwe 59 = true := by decide +kernel
set_option maxRecDepth 20000 in
theorem mk_60 : mwe 60 = true := by decide +kernel
set_option maxRecDepth 20000 in
theorem mk_61 : mwe 61 = true := by decide +kernel
set_option maxRecDepth 20000 in
theorem mk_62 : mwe 62 = true := by decide +kernel
set_option maxRecDepth 20000 in
theorem mk_63 : mwe 63 = true := by decide +kernel
set_option maxRecDepth 20000 in
theorem mk_64 : mwe 64 = true := by decide +kernel
set_option maxRecDepth 20000 in
theorem mk_65 : mwe 65 = true := by decide +kernel
set_option maxRecDepth 20000 in
theorem mk_66 : mwe 66 = true := by decide +kernel
set_option maxRecDepth 20000 in
theorem mk_67 : mwe 67 = true := by decide +kernel
set_option maxRecDepth 20000 in
theorem mk_68 : mwe 68 = true := by decide +kernel
set_option maxRecDepth 20000 in
theorem mk_69 : mwe 69 = true := by decide +kernel
set_option maxRecDepth 20000 in
theorem mk_70 : mwe 70 = true := by decide +kernel
set_option maxRecDepth 20000 in
theorem mk_71 : mwe 71 = true := by decide +kernel
set_option maxRecDepth 20000 in
theorem mk_72 : mwe 72 = true := by decide +kernel
set_option maxRecDepth 20000 in
theorem mk_73 : mwe 73 = true := by decide +kernel
set_option maxRecDepth 20000 in
theorem mk_74 : mwe 74 = true := by decide +kernel
set_option maxRecDepth 20000 in
theorem mk_75 : mwe 75 = true := by decide +kernel
set_option maxRecDepth 20000 in
theorem mk_76 : mwe 76 = true := by decide +kernel
set_option maxRecDepth 20000 in
theorem mk_77 : mwe 77 = true := by decide +kernel
set_option maxRecDepth 20000 in
theorem mk_78 : mwe 78 = true := by decide +kernel
set_option maxRecDepth 20000 in
theorem mk_79 : mwe 79 = true := by decide +kernel
set_option maxRecDepth 20000 in
theorem mk_80 : mwe 80 = true := by decide +kernel
set_option maxRecDepth 20000 in
theorem mk_81 : mwe 81 = true := by decide +kernel
set_option maxRecDepth 20000 in
theorem mk_82 : mwe 82 = true := by decide +kernel
set_option maxRecDepth 20000 in
theorem mk_83 : mwe 83 = true := by decide +kernel
set_option maxRecDepth 20000 in
theorem mk_84 : mwe 84 = true := by decide +kernel
set_option maxRecDepth 20000 in
theorem mk_85 : mwe 85 = true := by decide +kernel
set_option maxRecDepth 20000 in
theorem mk_86 : mwe 86 = true := by decide +kernel
set_option maxRecDepth 20000 in
theorem mk_87 : mwe 87 = true := by decide +kernel
set_option maxRecDepth 20000 in
theorem mk_88 : mwe 88 = true := by decide +kernel
set_option maxRecDepth 20000 in
theorem mk_89 : mwe 89 = true := by decide +kernel
set_option maxRecDepth 20000 in
theorem mk_90 : mwe 90 = true := by decide +kernel
set_option maxRecDepth 20000 in
theorem mk_91 : mwe 91 = true := by decide +kernel
set_option maxRecDepth 20000 in
theorem mk_92 : mwe 92 = true := by decide +kernel
set_option maxRecDepth 20000 in
theorem mk_93 : mwe 93 = true := by decide +kernel
set_option maxRecDepth 20000 in
theorem mk_94 : mwe 94 = true := by decide +kernel
set_option maxRecDepth 20000 in
theorem mk_95 : mwe 95 = true := by decide +kernel
set_option maxRecDepth 20000 in
theorem mk_96 : mwe 96 = true := by decide +kernel
set_option maxRecDepth 20000 in
theorem mk_97 : mwe 97 = true := by decide +kernel
set_option maxRecDepth 20000 in
theorem mk_98 : mwe 98 = true := by decide +kernel
set_option maxRecDepth 20000 in
theorem mk_99 : mwe 99 = true := by decide +kernel
set_option maxRecDepth 20000 in
theorem mk_100 : mwe 100 = true := by decide +kernel
set_option maxRecDepth 20000 in
theorem mk_101 : mwe 101 = true := by decide +kernel
set_option maxRecDepth 20000 in
theorem mk_102 : mwe 102 = true := by decide +kernel
set_option maxRecDepth 20000 in
theorem mk_103 : mwe 103 = true := by decide +kernel
set_option maxRecDepth 20000 in
theorem mk_104 : mwe 104 = true := by decide +kernel
set_option maxRecDepth 20000 in
theorem mk_105 : mwe 105 = true := by decide +kernel
set_option maxRecDepth 20000 in
theorem mk_106 : mwe 106 = true := by decide +kernel
set_option maxRecDepth 20000 in
theorem mk_107 : mwe 107 = true := by decide +kernel
set_option maxRecDepth 20000 in
theorem mk_108 : mwe 108 = true := by decide +kernel
set_option maxRecDepth 20000 in
theorem mk_109 : mwe 109 = true := by decide +kernel
set_option maxRecDepth 20000 in
theorem mk_110 : mwe 110 = true := by decide +kernel
set_option maxRecDepth 20000 in
theorem mk_111 : mwe 111 = true := by decide +kernel
set_option maxRecDepth 20000 in
theorem mk_112 : mwe 112 = true := by decide +kernel
set_option maxRecDepth 20000 in
theorem mk_113 : mwe 113 = true := by decide +kernel
set_option maxRecDepth 20000 in
theorem mk_114 : mwe 114 = true := by decide +kernel
set_option maxRecDepth 20000 in
theorem mk_115 : mwe 115 = true := by decide +kernel
set_option maxRecDepth 20000 in
theorem mk_116 : mwe 116 = true := by decide +kernel
set_option maxRecDepth 20000 in
theorem mk_117 : mwe 117 = true := by decide +kernel
set_option maxRecDepth 20000 in
theorem mk_118 : mwe 118 = true := by decide +kernel
set_option maxRecDepth 20000 in
theorem mk_119 : mwe 119 = true := by decide +kernel
set_option maxRecDepth 20000 in
theorem mk_120 : mwe 120 = true := by decide +kernel
set_option maxRecDepth 20000 in
theorem mk_121 : mwe 121 = true := by decide +kernel
set_option maxRecDepth 20000 in
theorem mk_122 : mwe 122 = true := by decide +kernel
set_option maxRecDepth 20000 in
theorem mk_123 : mwe 123 = true := by decide +kernel
set_option maxRecDepth 20000 in
theorem mk_124 : mwe 124 = true := by decide +kernel
set_option maxRecDepth 20000 in
theorem mk_125 : mwe 125 = true := by decide +kernel
set_option maxRecDepth 20000 in
theorem mk_126 : mwe 126 = true := by decide +kernel
set_option maxRecDepth 20000 in
theorem mk_127 : mwe 127 = true := by decide +kernel
set_option maxRecDepth 20000 in
theorem mk_128 : mwe 128 = true := by decide +kernel
set_option maxRecDepth 20000 in
theorem wq_c129 : wq 102 (.code (mcl 129).1 (mcl 129).2.1 (mcl 129).2.2.1 (mcl 129).2.2.2) = true := decide_eq_true rfl
theorem mws_129 : mws_.getD 129 [] = [102, 101, 100] := by decide +kernel
theorem mwk_of3 {x a b c : Nat} (e : mws_.getD x [] = [a, b, c]) (h0 : decide (plainName (mcl x).1.cls = true ∧ (mcl x).1.cls ≠ "java/lang/invoke/MethodHandle" ∧ (mcl x).1.cls ≠ "java/lang/invoke/VarHandle" ∧ (mcl x).2.2.1 ≤ 20) = true) (h1 : wq a (.code (mcl x).1 (mcl x).2.1 (mcl x).2.2.1 (mcl x).2.2.2) = true) (h2 : wq b (.initialized (mcl x).1.cls) = true) (h3 : wq c (.static (mcl x).1) = true) : mwe x = true := by
  have h : mwk x = true := by
    unfold mwk
    rw [e]
    simp only [h0, h1, h2, h3, Bool.and_true]
  unfold mwe
  rw [e]
  simp only [List.isEmpty_cons, cond_false]
  exact h
set_option maxRecDepth 20000 in
theorem mk_129 : mwe 129 = true := mwk_of3 mws_129 (by decide +kernel) wq_c129 (by decide +kernel) (by decide +kernel)
set_option maxRecDepth 20000 in
theorem mk_130 : mwe 130 = true := by decide +kernel
set_option maxRecDepth 20000 in
theorem mk_131 : mwe 131 = true := by decide +kernel
set_option maxRecDepth 20000 in
theorem mk_132 : mwe 132 = true := by decide +kernel
set_option maxRecDepth 20000 in
theorem mk_133 : mwe 133 = true := by decide +kernel
set_option maxRecDepth 20000 in
theorem mk_134 : mwe 134 = true := by decide +kernel
set_option maxRecDepth 20000 in
theorem mk_135 : mwe 135 = true := by decide +kernel
set_option maxRecDepth 20000 in
theorem mk_136 : mwe 136 = true := by decide +kernel
set_option maxRecDepth 20000 in
theorem mk_137 : mwe 137 = true := by decide +kernel
set_option maxRecDepth 20000 in
theorem mk_138 : mwe 138 = true := by decide +kernel
set_option maxRecDepth 20000 in
theorem mk_139 : mwe 139 = true := by decide +kernel
set_option maxRecDepth 20000 in
theorem mk_140 : mwe 140 = true := by decide +kernel
set_option maxRecDepth 20000 in
theorem mk_141 : mwe 141 = true := by decide +kernel
set_option maxRecDepth 20000 in
theorem mk_142 : mwe 142 = true := by decide +kernel
set_option maxRecDepth 20000 in
theorem mk_143 : mwe 143 = true := by decide +kernel
set_option maxRecDepth 20000 in
theorem mk_144 : mwe 144 = true := by decide +kernel
set_option maxRecDepth 20000 in
theorem mk_145 : mwe 145 = true := by decide +kernel
set_option maxRecDepth 20000 in
theorem mk_146 : mwe 146 = true := by decide +kernel
set_option maxRecDepth 20000 in
theorem mk_147 : mwe 147 = true := by decide +kernel
set_option maxRecDepth 20000 in
theorem mk_148 : mwe 148 = true := by decide +kernel
set_option maxRecDepth 20000 in
theorem mk_149 : mwe 149 = true := by decide +kernel
set_option maxRecDepth 20000 in
theorem mk_150 : mwe 150 = true := by decide +kernel
set_option maxRecDepth 20000 in
theorem mk_151 : mwe 151 = true := by decide +kernel
set_option maxRecDepth 20000 in
theorem mk_152 : mwe 152 = true := by decide +kernel
set_option maxRecDepth 20000 in
theorem mk_153 : mwe 153 = true := by decide +kernel
set_option maxRecDepth 20000 in
theorem mk_154 : mwe 154 = true := by decide +kernel
set_option maxRecDepth 20000 in
theorem mk_155 : mwe 155 = true := by decide +kernel
set_option maxRecDepth 20000 in
theorem mk_156 : mwe 156 = true := by decide +kernel
set_option maxRecDepth 20000 in
theorem mk_157 : mwe 157 = true := by decide +kernel
set_option maxRecDepth 20000 in
theorem mk_158 : mwe 158 = true := by decide +kernel
set_option maxRecDepth 20000 in
theorem mk_159 : mwe 159 = true := by decide +kernel
set_option maxRecDepth 20000 in
theorem mk_160 : mwe 160 = true := by decide +kernel
set_option maxRecDepth 20000 in
theorem mk_161 : mwe 161 = true := by decide +kernel
set_option maxRecDepth 20000 in
theorem mk_162 : mwe 162 = true := by decide +kernel
set_option maxRecDepth 20000 in
theorem mk_163 : mwe 163 = true := by decide +kernel
set_option maxRecDepth 20000 in
theorem mk_164 : mwe 164 = true := by decide +kernel
set_option maxRecDepth 20000 in
theorem mk_165 : mwe 165 = true := by decide +kernel
set_option maxRecDepth 20000 in
theorem mk_166 : mwe 166 = true := by decide +kernel
set_option maxRecDepth 20000 in
theorem mk_167 : mwe 167 = true := by decide +kernel
set_option maxRecDepth 20000 in
theorem mk_168 : mwe 168 = true := by decide +kernel
set_option maxRecDepth 20000 in
theorem mk_169 : mwe 169 = true := by decide +kernel
set_option maxRecDepth 20000 in
theorem mk_170 : mwe 170 = true := by decide +kernel
set_option maxRecDepth 20000 in
theorem mk_171 : mwe 171 = true := by decide +kernel
set_option maxRecDepth 20000 in
theorem mk_172 : mwe 172 = true := by decide +kernel
set_option maxRecDepth 20000 in
theorem mk_173 : mwe 173 = true := by decide +kernel
set_option maxRecDepth 20000 in
theorem mk_174 : mwe 174 = true := by decide +kernel
set_option maxRecDepth 20000 in
theorem mk_175 : mwe 175 = true := by decide +kernel
set_option maxRecDepth 20000 in
theorem mk_176 : mwe 176 = true := by decide +kernel
set_option maxRecDepth 20000 in
theorem mk_177 : mwe 177 = true := by decide +kernel
set_option maxRecDepth 20000 in
theorem mk_178 : mwe 178 = true := by decide +kernel
set_option maxRecDepth 20000 in
theorem mk_179 : mwe 179 = true := by decide +kernel
set_option maxRecDepth 20000 in
theorem mk_180 : mwe 180 = true := by decide +kernel
set_option maxRecDepth 20000 in
theorem mk_181 : mwe 181 = true := by decide +kernel
set_option maxRecDepth 20000 in
theorem mk_182 : mwe 182 = true := by decide +kernel
set_option maxRecDepth 20000 in
theorem mk_183 : mwe 183 = true := by decide +kernel
set_option maxRecDepth 20000 in
theorem mk_184 : mwe 184 = true := by decide +kernel
set_option maxRecDepth 20000 in
theorem mk_185 : mwe 185 = true := by decide +kernel
set_option maxRecDepth 20000 in
theorem mk_186 : mwe 186 = true := by decide +kernel
set_option maxRecDepth 20000 in
theorem mk_187 : mwe 187 = true := by decide +kernel
set_option maxRecDepth 20000 in
theorem mk_188 : mwe 188 = true := by decide +kernel
set_option maxRecDepth 20000 in
theorem mk_189 : mwe 189 = true := by decide +kernel
set_option maxRecDepth 20000 in
theorem mk_190 : mwe 190 = true := by decide +kernel
set_option maxRecDepth 20000 in
theorem mk_191 : mwe 191 = true := by decide +kernel
set_option maxRecDepth 20000 in
theorem mk_192 : mwe 192 = true := by decide +kernel
set_option maxRecDepth 20000 in
theorem mk_193 : mwe 193 = true := by decide +kernel
set_option maxRecDepth 20000 in
theorem mk_194 : mwe 194 = true := by decide +kernel
set_option maxRecDepth 20000 in
theorem mk_195 : mwe 195 = true := by decide +kernel
set_option maxRecDepth 20000 in
theorem mk_196 : mwe 196 = true := by decide +kernel
set_option maxRecDepth 20000 in
theorem mk_197 : mwe 197 = true := by decide +kernel
set_option maxRecDepth 20000 in
theorem mk_198 : mwe 198 = true := by decide +kernel
set_option maxRecDepth 20000 in
theorem mk_199 : mwe 199 = true := by decide +kernel
set_option maxRecDepth 20000 in
theorem mk_200 : mwe 200 = true := by decide +kernel
set_option maxRecDepth 20000 in
theorem mk_201 : mwe 201 = true := by decide +kernel
set_option maxRecDepth 20000 in
theorem mk_202 : mwe 202 = true := by decide +kernel
set_option maxRecDepth 20000 in
theorem mk_203 : mwe 203 = true := by decide +kernel
set_option maxRecDepth 20000 in
theorem mk_204 : mwe 204 = true := by decide +kernel
set_option maxRecDepth 20000 in
theorem mk_205 : mwe 205 = true := by decide +kernel
set_option maxRecDepth 20000 in
theorem mk_206 : mwe 206 = true := by decide +kernel
set_option maxRecDepth 20000 in
theorem mk_207 : mwe 207 = true := by decide +kernel
set_option maxRecDepth 20000 in
theorem mk_208 : mwe 208 = true := by decide +kernel
set_option maxRecDepth 20000 in
theorem mk_209 : mwe 209 = true := by decide +kernel
set_option maxRecDepth 20000 in
theorem mk_210 : mwe 210 = true := by decide +kernel
set_option maxRecDepth 20000 in
theorem mk_211 : mwe 211 = true := by decide +kernel
set_option maxRecDepth 20000 in
theorem mk_212 : mwe 212 = true := by decide +kernel
set_option maxRecDepth 20000 in
theorem mk_213 : mwe 213 = true := by decide +kernel
set_option maxRecDepth 20000 in
theorem mk_214 : mwe 214 = true := by decide +kernel
set_option maxRecDepth 20000 in
theorem mk_215 : mwe 215 = true := by decide +kernel
set_option maxRecDepth 20000 in
theorem mk_216 : mwe 216 = true := by decide +kernel
set_option maxRecDepth 20000 in
theorem mk_217 : mwe 217 = true := by decide +kernel
theorem ckA_c0 : ∀ a, a < 0 → chkM a (mcl a).2.2.2 = true := fun a h => absurd h (Nat.not_lt_zero a)
theorem ckA_c20 : ∀ a, a < 20 → chkM a (mcl a).2.2.2 = true := (lt_s (lt_s (lt_s (lt_s (lt_s (lt_s (lt_s (lt_s (lt_s (lt_s (lt_s (lt_s (lt_s (lt_s (lt_s (lt_s (lt_s (lt_s (lt_s (lt_s ckA_c0 ck_0) ck_1) ck_2) ck_3) ck_4) ck_5) ck_6) ck_7) ck_8) ck_9) ck_10) ck_11) ck_12) ck_13) ck_14) ck_15) ck_16) ck_17) ck_18) ck_19)
theorem ckA_c40 : ∀ a, a < 40 → chkM a (mcl a).2.2.2 = true := (lt_s (lt_s (lt_s (lt_s (lt_s (lt_s (lt_s (lt_s (lt_s (lt_s (lt_s (lt_s (lt_s (lt_s (lt_s (lt_s (lt_s (lt_s (lt_s (lt_s ckA_c20 ck_20) ck_21) ck_22) ck_23) ck_24) ck_25) ck_26) ck_27) ck_28) ck_29) ck_30) ck_31) ck_32) ck_33) ck_34) ck_35) ck_36) ck_37) ck_38) ck_39)
theorem ckA_c60 : ∀ a, a < 60 → chkM a (mcl a).2.2.2 = true := (lt_s (lt_s (lt_s (lt_s (lt_s (lt_s (lt_s (lt_s (lt_s (lt_s (lt_s (lt_s (lt_s (lt_s (lt_s (lt_s (lt_s (lt_s (lt_s (lt_s ckA_c40 ck_40) ck_41) ck_42) ck_43) ck_44) ck_45) ck_46) ck_47) ck_48) ck_49) ck_50) ck_51) ck_52) ck_53) ck_54) ck_55) ck_56) ck_57) ck_58) ck_59)
theorem ckA_c80 : ∀ a, a < 80 → chkM a (mcl a).2.2.2 = true := (lt_s (lt_s (lt_s (lt_s (lt_s (lt_s (lt_s (lt_s (lt_s (lt_s (lt_s (lt_s (lt_s (lt_s (lt_s (lt_s (lt_s (lt_s (lt_s (lt_s ckA_c60 ck_60) ck_61) ck_62) ck_63) ck_64) ck_65) ck_66) ck_67) ck_68) ck_69) ck_70) ck_71) ck_72) ck_73) ck_74) ck_75) ck_76) ck_77) ck_78) ck_79)
theorem ckA_c100 : ∀ a, a < 100 → chkM a (mcl a).2.2.2 = true := (lt_s (lt_s (lt_s (lt_s (lt_s (lt_s (lt_s (lt_s (lt_s (lt_s (lt_s (lt_s (lt_s (lt_s (lt_s (lt_s (lt_s (lt_s (lt_s (lt_s ckA_c80 ck_80) ck_81) ck_82) ck_83) ck_84) ck_85) ck_86) ck_87) ck_88) ck_89) ck_90) ck_91) ck_92) ck_93) ck_94) ck_95) ck_96) ck_97) ck_98) ck_99)
theorem ckA_c120 : ∀ a, a < 120 → chkM a (mcl a).2.2.2 = true := (lt_s (lt_s (lt_s (lt_s (lt_s (lt_s (lt_s (lt_s (lt_s (lt_s (lt_s (lt_s (lt_s (lt_s (lt_s (lt_s (lt_s (lt_s (lt_s (lt_s ckA_c100 ck_100) ck_101) ck_102) ck_103) ck_104) ck_105) ck_106) ck_107) ck_108) ck_109) ck_110) ck_111) ck_112) ck_113) ck_114) ck_115) ck_116) ck_117) ck_118) ck_119)
theorem ckA_c140 : ∀ a, a < 140 → chkM a (mcl a).2.2.2 = true := (lt_s (lt_s (lt_s (lt_s (lt_s (lt_s (lt_s (lt_s (lt_s (lt_s (lt_s (lt_s (lt_s (lt_s (lt_s (lt_s (lt_s (lt_s (lt_s (lt_s ckA_c120 ck_120) ck_121) ck_122) ck_123) ck_124) ck_125) ck_126) ck_127) ck_128) ck_129) ck_130) ck_131) ck_132) ck_133) ck_134) ck_135) ck_136) ck_137) ck_138) ck_139)
theorem ckA_c160 : ∀ a, a < 160 → chkM a (mcl a).2.2.2 = true := (lt_s (lt_s (lt_s (lt_s (lt_s (lt_s (lt_s (lt_s (lt_s (lt_s (lt_s (lt_s (lt_s (lt_s (lt_s (lt_s (lt_s (lt_s (lt_s (lt_s ckA_c140 ck_140) ck_141) ck_142) ck_143) ck_144) ck_145) ck_146) ck_147) ck_148) ck_149) ck_150) ck_151) ck_152) ck_153) ck_154) ck_155) ck_156) ck_157) ck_158) ck_159)
theorem ckA_c180 : ∀ a, a < 180 → chkM a (mcl a).2.2.2 = true := (lt_s (lt_s (lt_s (lt_s (lt_s (lt_s (lt_s (lt_s (lt_s (lt_s (lt_s (lt_s (lt_s (lt_s (lt_s (lt_s (lt_s (lt_s (lt_s (lt_s ckA_c160 ck_160) ck_161) ck_162) ck_163) ck_164) ck_165) ck_166) ck_167) ck_168) ck_169) ck_170) ck_171) ck_172) ck_173) ck_174) ck_175) ck_176) ck_177) ck_178) ck_179)
theorem ckA_c200 : ∀ a, a < 200 → chkM a (mcl a).2.2.2 = true := (lt_s (lt_s (lt_s (lt_s (lt_s (lt_s (lt_s (lt_s (lt_s (lt_s (lt_s (lt_s (lt_s (lt_s (lt_s (lt_s (lt_s (lt_s (lt_s (lt_s ckA_c180 ck_180) ck_181) ck_182) ck_183) ck_184) ck_185) ck_186) ck_187) ck_188) ck_189) ck_190) ck_191) ck_192) ck_193) ck_194) ck_195) ck_196) ck_197) ck_198) ck_199)
theorem ckA_c218 : ∀ a, a < 218 → chkM a (mcl a).2.2.2 = true := (lt_s (lt_s (lt_s (lt_s (lt_s (lt_s (lt_s (lt_s (lt_s (lt_s (lt_s (lt_s (lt_s (lt_s (lt_s (lt_s (lt_s (lt_s ckA_c200 ck_200) ck_201) ck_202) ck_203) ck_204) ck_205) ck_206) ck_207) ck_208) ck_209) ck_210) ck_211) ck_212) ck_213) ck_214) ck_215) ck_216) ck_217)
theorem meA_c0 : ∀ a, a < 0 → mwe a = true := fun a h => absurd h (Nat.not_lt_zero a)
theorem meA_c20 : ∀ a, a < 20 → mwe a = true := (lt_s (lt_s (lt_s (lt_s (lt_s (lt_s (lt_s (lt_s (lt_s (lt_s (lt_s (lt_s (lt_s (lt_s (lt_s (lt_s (lt_s (lt_s (lt_s (lt_s meA_c0 mk_0) mk_1) mk_2) mk_3) mk_4) mk_5) mk_6) mk_7) mk_8) mk_9) mk_10) mk_11) mk_12) mk_13) mk_14) mk_15) mk_16) mk_17) mk_18) mk_19)
theorem meA_c40 : ∀ a, a < 40 → mwe a = true := (lt_s (lt_s (lt_s (lt_s (lt_s (lt_s (lt_s (lt_s (lt_s (lt_s (lt_s (lt_s (lt_s (lt_s (lt_s (lt_s (lt_s (lt_s (lt_s (lt_s meA_c20 mk_20) mk_21) mk_22) mk_23) mk_24) mk_25) mk_26) mk_27) mk_28) mk_29) mk_30) mk_31) mk_32) mk_33) mk_34) mk_35) mk_36) mk_37) mk_38) mk_39)
theorem meA_c60 : ∀ a, a < 60 → mwe a = true := (lt_s (lt_s (lt_s (lt_s (lt_s (lt_s (lt_s (lt_s (lt_s (lt_s (lt_s (lt_s (lt_s (lt_s (lt_s (lt_s (lt_s (lt_s (lt_s (lt_s meA_c40 mk_40) mk_41) mk_42) mk_43) mk_44) mk_45) mk_46) mk_47) mk_48) mk_49) mk_50) mk_51) mk_52) mk_53) mk_54) mk_55) mk_56) mk_57) mk_58) mk_59)
theorem meA_c80 : ∀ a, a < 80 → mwe a = true := (lt_s (lt_s (lt_s (lt_s (lt_s (lt_s (lt_s (lt_s (lt_s (lt_s (lt_s (lt_s (lt_s (lt_s (lt_s (lt_s (lt_s (lt_s (lt_s (lt_s meA_c60 mk_60) mk_61) mk_62) mk_63) mk_64) mk_65) mk_66) mk_67) mk_68) mk_69) mk_70) mk_71) mk_72) mk_73) mk_74) mk_75) mk_76) mk_77) mk_78) mk_79)
theorem meA_c100 : ∀ a, a < 100 → mwe a = true := (lt_s (lt_s (lt_s (lt_s (lt_s (lt_s (lt_s (lt_s (lt_s (lt_s (lt_s (lt_s (lt_s (lt_s (lt_s (lt_s (lt_s (lt_s (lt_s (lt_s meA_c80 mk_80) mk_81) mk_82) mk_83) mk_84) mk_85) mk_86) mk_87) mk_88) mk_89) mk_90) mk_91) mk_92) mk_93) mk_94) mk_95) mk_96) mk_97) mk_98) mk_99)
theorem meA_c120 : ∀ a, a < 120 → mwe a = true := (lt_s (lt_s (lt_s (lt_s (lt_s (lt_s (lt_s (lt_s (lt_s (lt_s (lt_s (lt_s (lt_s (lt_s (lt_s (lt_s (lt_s (lt_s (lt_s (lt_s meA_c100 mk_100) mk_101) mk_102) mk_103) mk_104) mk_105) mk_106) mk_107) mk_108) mk_109) mk_110) mk_111) mk_112) mk_113) mk_114) mk_115) mk_116) mk_117) mk_118) mk_119)
theorem meA_c140 : ∀ a, a < 140 → mwe a = true := (lt_s (lt_s (lt_s (lt_s (lt_s (lt_s (lt_s (lt_s (lt_s (lt_s (lt_s (lt_s (lt_s (lt_s (lt_s (lt_s (lt_s (lt_s (lt_s (lt_s meA_c120 mk_120) mk_121) mk_122) mk_123) mk_124) mk_125) mk_126) mk_127) mk_128) mk_129) mk_130) mk_131) mk_132) mk_133) mk_134) mk_135) mk_136) mk_137) mk_138) mk_139)
theorem meA_c160 : ∀ a, a < 160 → mwe a = true := (lt_s (lt_s (lt_s (lt_s (lt_s (lt_s (lt_s (lt_s (lt_s (lt_s (lt_s (lt_s (lt_s (lt_s (lt_s (lt_s (lt_s (lt_s (lt_s (lt_s meA_c140 mk_140) mk_141) mk_142) mk_143) mk_144) mk_145) mk_146) mk_147) mk_148) mk_149) mk_150) mk_151) mk_152) mk_153) mk_154) mk_155) mk_156) mk_157) mk_158) mk_159)
theorem meA_c180 : ∀ a, a < 180 → mwe a = true := (lt_s (lt_s (lt_s (lt_s (lt_s (lt_s (lt_s (lt_s (lt_s (lt_s (lt_s (lt_s (lt_s (lt_s (lt_s (lt_s (lt_s (lt_s (lt_s (lt_s meA_c160 mk_160) mk_161) mk_162) mk_163) mk_164) mk_165) mk_166) mk_167) mk_168) mk_169) mk_170) mk_171) mk_172) mk_173) mk_174) mk_175) mk_176) mk_177) mk_178) mk_179)
theorem meA_c200 : ∀ a, a < 200 → mwe a = true := (lt_s (lt_s (lt_s (lt_s (lt_s (lt_s (lt_s (lt_s (lt_s (lt_s (lt_s (lt_s (lt_s (lt_s (lt_s (lt_s (lt_s (lt_s (lt_s (lt_s meA_c180 mk_180) mk_181) mk_182) mk_183) mk_184) mk_185) mk_186) mk_187) mk_188) mk_189) mk_190) mk_191) mk_192) mk_193) mk_194) mk_195) mk_196) mk_197) mk_198) mk_199)
theorem meA_c218 : ∀ a, a < 218 → mwe a = true := (lt_s (lt_s (lt_s (lt_s (lt_s (lt_s (lt_s (lt_s (lt_s (lt_s (lt_s (lt_s (lt_s (lt_s (lt_s (lt_s (lt_s (lt_s meA_c200 mk_200) mk_201) mk_202) mk_203) mk_204) mk_205) mk_206) mk_207) mk_208) mk_209) mk_210) mk_211) mk_212) mk_213) mk_214) mk_215) mk_216) mk_217)
theorem mkA_c218 {x : Nat} (hx : x < 218) {k : Nat} (h : (mws_.getD x []).length = k + 1) : mwk x = true := by
  have h1 := meA_c218 x hx
  unfold mwe at h1
  cases hq : mws_.getD x [] with
  | nil => rw [hq] at h; cases h
  | cons a l => rw [hq] at h1; exact h1
theorem meA_no {x : Nat} (hx : x < 218) (h : mws_.getD x [] = []) : tbs_.getD x [] = [] := by
  have h1 := meA_c218 x hx
  unfold mwe at h1
  rw [h] at h1
  exact List.isEmpty_iff.mp h1
end
section
set_option maxRecDepth 20000 in
theorem ckL_0 : chkR 218 0 (some .boolean) = true := by decide +kernel
set_option maxRecDepth 20000 in
theorem ckL_1 : chkR 218 1 (some .boolean) = true := by decide +kernel
set_option maxRecDepth 20000 in
theorem ckL_2 : chkR 218 2 (some .boolean) = true := by decide +kernel
set_option maxRecDepth 20000 in
theorem ckL_3 : chkR 218 3 (some .boolean) = true := by decide +kernel
set_option maxRecDepth 20000 in
theorem ckL_4 : chkR 218 4 (some .boolean) = true := by decide +kernel
set_option maxRecDepth 20000 in
theorem ckL_5 : chkR 218 5 (some .boolean) = true := by decide +kernel
set_option maxRecDepth 20000 in
theorem ckL_6 : chkR 218 6 (some .boolean) = true := by decide +kernel
set_option maxRecDepth 20000 in
theorem ckL_7 : chkR 218 7 (some .boolean) = true := by decide +kernel
set_option maxRecDepth 20000 in
theorem ckL_8 : chkR 218 8 (some .boolean) = true := by decide +kernel
set_option maxRecDepth 20000 in
theorem ckL_9 : chkR 218 9 (some .boolean) = true := by decide +kernel
set_option maxRecDepth 20000 in
theorem ckL_10 : chkR 218 10 (some .boolean) = true := by decide +kernel
set_option maxRecDepth 20000 in
theorem ckL_11 : chkR 218 11 (some .boolean) = true := by decide +kernel
set_option maxRecDepth 20000 in
theorem ckL_12 : chkR 218 12 (some .boolean) = true := by decide +kernel
set_option maxRecDepth 20000 in
theorem ckL_13 : chkR 218 13 (some .boolean) = true := by decide +kernel
set_option maxRecDepth 20000 in
theorem ckL_14 : chkR 218 14 (some .boolean) = true := by decide +kernel
set_option maxRecDepth 20000 in
theorem ckL_15 : chkR 218 15 (some .boolean) = true := by decide +kernel
set_option maxRecDepth 20000 in
theorem ckL_16 : chkR 218 16 (some .boolean) = true := by decide +kernel
set_option maxRecDepth 20000 in
theorem ckL_17 : chkR 218 17 (some .boolean) = true := by decide +kernel
set_option maxRecDepth 20000 in
theorem ckL_18 : chkR 218 18 (some .boolean) = true := by decide +kernel
set_option maxRecDepth 20000 in
theorem ckL_19 : chkR 218 19 (some .boolean) = true := by decide +kernel
set_option maxRecDepth 20000 in
theorem ckL_20 : chkR 218 20 (some .boolean) = true := by decide +kernel
set_option maxRecDepth 20000 in
theorem ckL_21 : chkR 218 21 (some .boolean) = true := by decide +kernel
set_option maxRecDepth 20000 in
theorem ckL_22 : chkR 218 22 (some .boolean) = true := by decide +kernel
set_option maxRecDepth 20000 in
theorem ckL_23 : chkR 218 23 (some .boolean) = true := by decide +kernel
set_option maxRecDepth 20000 in
theorem ckL_24 : chkR 218 24 (some .boolean) = true := by decide +kernel
set_option maxRecDepth 20000 in
theorem ckL_25 : chkR 218 25 (some .boolean) = true := by decide +kernel
set_option maxRecDepth 20000 in
theorem ckL_26 : chkR 218 26 (some .boolean) = true := by decide +kernel
set_option maxRecDepth 20000 in
theorem ckL_27 : chkR 218 27 (some .boolean) = true := by decide +kernel
set_option maxRecDepth 20000 in
theorem ckL_28 : chkR 218 28 (some .boolean) = true := by decide +kernel
set_option maxRecDepth 20000 in
theorem ckL_29 : chkR 218 29 (some .boolean) = true := by decide +kernel
set_option maxRecDepth 20000 in
theorem ckL_30 : chkR 218 30 (some .boolean) = true := by decide +kernel
set_option maxRecDepth 20000 in
theorem ckL_31 : chkR 218 31 (some .boolean) = true := by decide +kernel
set_option maxRecDepth 20000 in
theorem ckL_32 : chkR 218 32 (some .boolean) = true := by decide +kernel
set_option maxRecDepth 20000 in
theorem ckL_33 : chkR 218 33 (some .boolean) = true := by decide +kernel
set_option maxRecDepth 20000 in
theorem ckL_34 : chkR 218 34 (some .boolean) = true := by decide +kernel
set_option maxRecDepth 20000 in
theorem ckL_35 : chkR 218 35 (some .boolean) = true := by decide +kernel
set_option maxRecDepth 20000 in
theorem ckL_36 : chkR 218 36 (some .boolean) = true := by decide +kernel
set_option maxRecDepth 20000 in
theorem ckL_37 : chkR 218 37 (some .boolean) = true := by decide +kernel
set_option maxRecDepth 20000 in
theorem ckL_38 : chkR 218 38 (some .boolean) = true := by decide +kernel
set_option maxRecDepth 20000 in
theorem ckL_39 : chkR 218 39 (some .boolean) = true := by decide +kernel
set_option maxRecDepth 20000 in
theorem ckL_40 : chkR 218 40 (some .boolean) = true := by decide +kernel
set_option maxRecDepth 20000 in
theorem ckL_41 : chkR 218 41 (some .boolean) = true := by decide +kernel
set_option maxRecDepth 20000 in
theorem ckL_42 : chkR 218 42 (some .boolean) = true := by decide +kernel
set_option maxRecDepth 20000 in
theorem ckL_43 : chkR 218 43 (some .boolean) = true := by decide +kernel
set_option maxRecDepth 20000 in
theorem ckL_44 : chkR 218 44 (some .boolean) = true := by decide +kernel
set_option maxRecDepth 20000 in
theorem ckL_45 : chkR 218 45 (some .boolean) = true := by decide +kernel
set_option maxRecDepth 20000 in
theorem ckL_46 : chkR 218 46 (some .boolean) = true := by decide +kernel
set_option maxRecDepth 20000 in
theorem ckL_47 : chkR 218 47 (some .boolean) = true := by decide +kernel
set_option maxRecDepth 20000 in
theorem ckLw_0 : ∀ a, a < 0 → chkR 218 a (some .boolean) = true := fun a h => absurd h (Nat.not_lt_zero a)
set_option maxRecDepth 20000 in
theorem ckLw_1 : ∀ a, a < 1 → chkR 218 a (some .boolean) = true := lt_s ckLw_0 ckL_0
set_option maxRecDepth 20000 in
theorem ckLw_2 : ∀ a, a < 2 → chkR 218 a (some .boolean) = true := lt_s ckLw_1 ckL_1
set_option maxRecDepth 20000 in
theorem ckLw_3 : ∀ a, a < 3 → chkR 218 a (some .boolean) = true := lt_s ckLw_2 ckL_2
set_option maxRecDepth 20000 in
theorem ckLw_4 : ∀ a, a < 4 → chkR 218 a (some .boolean) = true := lt_s ckLw_3 ckL_3
set_option maxRecDepth 20000 in
theorem ckLw_5 : ∀ a, a < 5 → chkR 218 a (some .boolean) = true := lt_s ckLw_4 ckL_4
set_option maxRecDepth 20000 in
theorem ckLw_6 : ∀ a, a < 6 → chkR 218 a (some .boolean) = true := lt_s ckLw_5 ckL_5
set_option maxRecDepth 20000 in
theorem ckLw_7 : ∀ a, a < 7 → chkR 218 a (some .boolean) = true := lt_s ckLw_6 ckL_6
set_option maxRecDepth 20000 in
theorem ckLw_8 : ∀ a, a < 8 → chkR 218 a (some .boolean) = true := lt_s ckLw_7 ckL_7
set_option maxRecDepth 20000 in
theorem ckLw_9 : ∀ a, a < 9 → chkR 218 a (some .boolean) = true := lt_s ckLw_8 ckL_8
set_option maxRecDepth 20000 in
theorem ckLw_10 : ∀ a, a < 10 → chkR 218 a (some .boolean) = true := lt_s ckLw_9 ckL_9
set_option maxRecDepth 20000 in
theorem ckLw_11 : ∀ a, a < 11 → chkR 218 a (some .boolean) = true := lt_s ckLw_10 ckL_10
set_option maxRecDepth 20000 in
theorem ckLw_12 : ∀ a, a < 12 → chkR 218 a (some .boolean) = true := lt_s ckLw_11 ckL_11
set_option maxRecDepth 20000 in
theorem ckLw_13 : ∀ a, a < 13 → chkR 218 a (some .boolean) = true := lt_s ckLw_12 ckL_12
set_option maxRecDepth 20000 in
theorem ckLw_14 : ∀ a, a < 14 → chkR 218 a (some .boolean) = true := lt_s ckLw_13 ckL_13
set_option maxRecDepth 20000 in
theorem ckLw_15 : ∀ a, a < 15 → chkR 218 a (some .boolean) = true := lt_s ckLw_14 ckL_14
set_option maxRecDepth 20000 in
theorem ckLw_16 : ∀ a, a < 16 → chkR 218 a (some .boolean) = true := lt_s ckLw_15 ckL_15
set_option maxRecDepth 20000 in
theorem ckLw_17 : ∀ a, a < 17 → chkR 218 a (some .boolean) = true := lt_s ckLw_16 ckL_16
set_option maxRecDepth 20000 in
theorem ckLw_18 : ∀ a, a < 18 → chkR 218 a (some .boolean) = true := lt_s ckLw_17 ckL_17
set_option maxRecDepth 20000 in
theorem ckLw_19 : ∀ a, a < 19 → chkR 218 a (some .boolean) = true := lt_s ckLw_18 ckL_18
set_option maxRecDepth 20000 in
theorem ckLw_20 : ∀ a, a < 20 → chkR 218 a (some .boolean) = true := lt_s ckLw_19 ckL_19
set_option maxRecDepth 20000 in
theorem ckLw_21 : ∀ a, a < 21 → chkR 218 a (some .boolean) = true := lt_s ckLw_20 ckL_20
set_option maxRecDepth 20000 in
theorem ckLw_22 : ∀ a, a < 22 → chkR 218 a (some .boolean) = true := lt_s ckLw_21 ckL_21
set_option maxRecDepth 20000 in
theorem ckLw_23 : ∀ a, a < 23 → chkR 218 a (some .boolean) = true := lt_s ckLw_22 ckL_22
set_option maxRecDepth 20000 in
theorem ckLw_24 : ∀ a, a < 24 → chkR 218 a (some .boolean) = true := lt_s ckLw_23 ckL_23
set_option maxRecDepth 20000 in
theorem ckLw_25 : ∀ a, a < 25 → chkR 218 a (some .boolean) = true := lt_s ckLw_24 ckL_24
set_option maxRecDepth 20000 in
theorem ckLw_26 : ∀ a, a < 26 → chkR 218 a (some .boolean) = true := lt_s ckLw_25 ckL_25
set_option maxRecDepth 20000 in
theorem ckLw_27 : ∀ a, a < 27 → chkR 218 a (some .boolean) = true := lt_s ckLw_26 ckL_26
set_option maxRecDepth 20000 in
theorem ckLw_28 : ∀ a, a < 28 → chkR 218 a (some .boolean) = true := lt_s ckLw_27 ckL_27
set_option maxRecDepth 20000 in
theorem ckLw_29 : ∀ a, a < 29 → chkR 218 a (some .boolean) = true := lt_s ckLw_28 ckL_28
set_option maxRecDepth 20000 in
theorem ckLw_30 : ∀ a, a < 30 → chkR 218 a (some .boolean) = true := lt_s ckLw_29 ckL_29
set_option maxRecDepth 20000 in
theorem ckLw_31 : ∀ a, a < 31 → chkR 218 a (some .boolean) = true := lt_s ckLw_30 ckL_30
set_option maxRecDepth 20000 in
theorem ckLw_32 : ∀ a, a < 32 → chkR 218 a (some .boolean) = true := lt_s ckLw_31 ckL_31
set_option maxRecDepth 20000 in
theorem ckLw_33 : ∀ a, a < 33 → chkR 218 a (some .boolean) = true := lt_s ckLw_32 ckL_32
set_option maxRecDepth 20000 in
theorem ckLw_34 : ∀ a, a < 34 → chkR 218 a (some .boolean) = true := lt_s ckLw_33 ckL_33
set_option maxRecDepth 20000 in
theorem ckLw_35 : ∀ a, a < 35 → chkR 218 a (some .boolean) = true := lt_s ckLw_34 ckL_34
set_option maxRecDepth 20000 in
theorem ckLw_36 : ∀ a, a < 36 → chkR 218 a (some .boolean) = true := lt_s ckLw_35 ckL_35
set_option maxRecDepth 20000 in
theorem ckLw_37 : ∀ a, a < 37 → chkR 218 a (some .boolean) = true := lt_s ckLw_36 ckL_36
set_option maxRecDepth 20000 in
theorem ckLw_38 : ∀ a, a < 38 → chkR 218 a (some .boolean) = true := lt_s ckLw_37 ckL_37
set_option maxRecDepth 20000 in
theorem ckLw_39 : ∀ a, a < 39 → chkR 218 a (some .boolean) = true := lt_s ckLw_38 ckL_38
set_option maxRecDepth 20000 in
theorem ckLw_40 : ∀ a, a < 40 → chkR 218 a (some .boolean) = true := lt_s ckLw_39 ckL_39
set_option maxRecDepth 20000 in
theorem ckLw_41 : ∀ a, a < 41 → chkR 218 a (some .boolean) = true := lt_s ckLw_40 ckL_40
set_option maxRecDepth 20000 in
theorem ckLw_42 : ∀ a, a < 42 → chkR 218 a (some .boolean) = true := lt_s ckLw_41 ckL_41
set_option maxRecDepth 20000 in
theorem ckLw_43 : ∀ a, a < 43 → chkR 218 a (some .boolean) = true := lt_s ckLw_42 ckL_42
set_option maxRecDepth 20000 in
theorem ckLw_44 : ∀ a, a < 44 → chkR 218 a (some .boolean) = true := lt_s ckLw_43 ckL_43
set_option maxRecDepth 20000 in
theorem ckLw_45 : ∀ a, a < 45 → chkR 218 a (some .boolean) = true := lt_s ckLw_44 ckL_44
set_option maxRecDepth 20000 in
theorem ckLw_46 : ∀ a, a < 46 → chkR 218 a (some .boolean) = true := lt_s ckLw_45 ckL_45
set_option maxRecDepth 20000 in
theorem ckLw_47 : ∀ a, a < 47 → chkR 218 a (some .boolean) = true := lt_s ckLw_46 ckL_46
set_option maxRecDepth 20000 in
theorem ckLw_48 : ∀ a, a < 48 → chkR 218 a (some .boolean) = true := lt_s ckLw_47 ckL_47
set_option maxRecDepth 20000 in
theorem ck_218 : chkM 218 (some .boolean) = true := chkR_all (n := 48) (by decide +kernel) ckLw_48
end
section
/-! THE WORLD that an abstract memory stands for: its cells, each at its address; what a store does to it. -/
def cnts : List Nat := [13, 3, 1, 1, 2, 1, 1]
def prts (c : Nat) : List Nat := 0 :: (List.range ((atb.getD c []).length)).filter fun p => !((aty c p).beq 9)
def cellsB : List (Nat × Nat × Nat) := (List.range 7).flatMap fun c => (List.range (cnts.getD c 0)).flatMap fun n => (prts c).map fun p => (c, n, p)
/-- the rows of the law that are there: they come one by one; the sixth, of longs, while it tells its text -/
def lawR (lw : Nat) : List Nat := ([[], [1], [1, 2], [1, 2, 3], [1, 2, 3, 4], [1, 2, 3, 4, 5], [1, 2, 3, 4, 5, 6], [1, 2, 3, 4, 5, 7], [1, 2, 3, 4, 5, 7, 8], [1, 2, 3, 4, 5, 7, 8, 9]] : List (List Nat)).getD (min lw 9) []
def cellsL (lw : Nat) : List (Nat × Nat × Nat) := cellsB ++ (lawR lw).map fun p => (7, 0, p)
theorem cellsL_min (lw : Nat) : cellsL lw = cellsL (min lw 9) := by
  unfold cellsL lawR
  rw [Nat.min_eq_left (Nat.min_le_right lw 9)]
theorem nd_inj {α : Type} : ∀ (l : List α), l.Nodup → ∀ (i j : Nat) (a : α), l[i]? = some a → l[j]? = some a → i = j
  | [], _, i, j, a, h, _ => by simp at h
  | b :: l, hn, i, j, a, h1, h2 => by
    have hb := (List.nodup_cons.mp hn).1
    cases i with
    | zero =>
      cases j with
      | zero => rfl
      | succ j =>
        rw [List.getElem?_cons_zero] at h1
        rw [List.getElem?_cons_succ] at h2
        cases h1
        exact absurd (List.mem_of_getElem? h2) hb
    | succ i =>
      rw [List.getElem?_cons_succ] at h1
      cases j with
      | zero =>
        rw [List.getElem?_cons_zero] at h2
        cases h2
        exact absurd (List.mem_of_getElem? h1) hb
      | succ j =>
        rw [List.getElem?_cons_succ] at h2
        rw [nd_inj l (List.nodup_cons.mp hn).2 i j a h1 h2]
set_option maxRecDepth 20000 in
theorem cells_nd_ : ∀ lw, lw < 10 → (cellsL lw).Nodup := by decide +kernel
theorem cells_nd (lw : Nat) : (cellsL lw).Nodup := by
  rw [cellsL_min]
  exact cells_nd_ _ (by omega)
abbrev AD_ : Type := Nat → Nat → Nat → Nat
def cv (ad : AD_) : V_ → Value
  | Sum.inl x => .int x
  | Sum.inr (Sum.inl x) => .long x
  | Sum.inr (Sum.inr (c, n, p)) => .ref (ad c n p)
def rad (ad : AD_) : V_ → Nat
  | Sum.inr (Sum.inr (c, n, p)) => ad c n p
  | _ => 0
def okc (lw : Nat) (c n p : Nat) : Prop := (c, n, p) ∈ (cellsL lw) ∨ (c = 9 ∧ n < 12 ∧ p = 0) ∨ (c = 8 ∧ n = 0 ∧ p = 0)
def okv (lw : Nat) : V_ → Prop
  | Sum.inr (Sum.inr (c, n, p)) => okc lw c n p
  | _ => True
def okL (lw : Nat) (lv : Lv_) : Prop := ∀ v, some v ∈ lv → okv lw v
def okS (lw : Nat) (st : List V_) : Prop := ∀ v ∈ st, okv lw v
/-- what the tables of cells and fields say together -/
def ckC (L : List (Nat × Nat × Nat)) : Nat × Nat × Nat → Bool
  | (c, n, 0) => c.blt 7 && (List.range (rcl c).2.2).all fun k => match fkd c k with
    | 0 => true
    | 1 => decide ((c, n, k + 1) ∈ L)
    | 2 => decide ((4, 0, 0) ∈ L ∧ (4, 1, 0) ∈ L)
    | m + 3 => decide ((m / 16, m % 16, 0) ∈ L)
  | (c, n, p + 1) => c.blt 8 && (aty c (p + 1)).blt 6 && (bif (aty c (p + 1)).blt 2 || (aty c (p + 1)).beq 5 then true else (List.range (aln c (p + 1))).all fun i => match aref c n (p + 1) i with
    | Sum.inr (Sum.inr q) => decide (q ∈ L)
    | _ => false)
set_option maxRecDepth 20000 in
theorem cells_ck_ : ∀ lw, lw < 10 → ∀ x ∈ cellsL lw, ckC (cellsL lw) x = true := by decide +kernel
theorem cells_ck (lw : Nat) : ∀ x ∈ cellsL lw, ckC (cellsL lw) x = true := by
  rw [cellsL_min]
  exact cells_ck_ _ (by omega)
theorem cell_zero_ : ∀ lw, lw < 10 → ∀ x ∈ cellsL lw, x.2.2 = 0 → aty x.1 0 = 9 := by decide +kernel
theorem cell_zero (lw : Nat) : ∀ x ∈ cellsL lw, x.2.2 = 0 → aty x.1 0 = 9 := by
  rw [cellsL_min]
  exact cell_zero_ _ (by omega)
theorem cell_lt {lw c n p : Nat} (h : (c, n, p) ∈ cellsL lw) : c < 8 := by
  have := cells_ck lw _ h
  cases p <;> simp only [ckC, Bool.and_eq_true, Nat.blt_eq] at this
  · omega
  · exact this.1.1
theorem cell_obj {lw c n : Nat} (h : (c, n, 0) ∈ cellsL lw) : c < 7 := by
  have := cells_ck lw _ h
  simp only [ckC, Bool.and_eq_true, Nat.blt_eq] at this
  exact this.1
theorem cell_fld {lw : Nat} {c n k : Nat} {O : Mem_} (h : (c, n, 0) ∈ (cellsL lw)) (hk : k < (rcl c).2.2) : okv lw (gfv (fkd c k) c n k O) := by
  have := cells_ck lw _ h
  simp only [ckC, Bool.and_eq_true] at this
  have h2 := List.all_eq_true.mp this.2 k (List.mem_range.mpr hk)
  revert h2
  generalize fkd c k = z
  intro h2
  match z, h2 with
  | 0, _ => exact trivial
  | 1, h2 => exact Or.inl (of_decide_eq_true h2)
  | 2, h2 =>
    have h3 := of_decide_eq_true h2
    refine Or.inl ?_
    unfold sel
    split
    · exact h3.1
    · exact h3.2
  | m + 3, h2 => exact Or.inl (of_decide_eq_true h2)
theorem cell_ref {lw : Nat} {c n p i : Nat} (h : (c, n, p) ∈ (cellsL lw)) (h1 : Nat.blt 1 (aty c p) = true) (h2 : (aty c p).blt 5 = true) (hi : i < aln c p) : ∃ q, aref c n p i = Sum.inr (Sum.inr q) ∧ okc lw q.1 q.2.1 q.2.2 := by
  have := cells_ck lw _ h
  cases p with
  | zero =>
    exfalso
    have h0 : aty c 0 = 9 := cell_zero lw _ h rfl
    rw [h0] at h2
    cases h2
  | succ p =>
    simp only [ckC, Bool.and_eq_true] at this
    have h3 := this.2
    have h4 : (aty c (p + 1)).blt 2 = false := by
      cases hq : (aty c (p + 1)).blt 2 with
      | false => rfl
      | true =>
        rw [Nat.blt_eq] at h1 hq
        omega
    have h6 : (aty c (p + 1)).beq 5 = false := by
      cases hq : (aty c (p + 1)).beq 5 with
      | false => rfl
      | true =>
        have hq := Nat.eq_of_beq_eq_true hq
        rw [Nat.blt_eq] at h2
        omega
    rw [h4, h6, Bool.or_false] at h3
    have h5 := List.all_eq_true.mp h3 i (List.mem_range.mpr hi)
    revert h5
    cases aref c n (p + 1) i with
    | inl x => intro h5; cases h5
    | inr y => cases y with
      | inl x => intro h5; cases h5
      | inr q => intro h5; exact ⟨q, rfl, Or.inl (of_decide_eq_true h5)⟩
def fls (ad : AD_) (O : Mem_) (c n : Nat) : List Value := (List.range (rcl c).2.2).map fun k => cv ad (gfv (fkd c k) c n k O)
def cel (ad : AD_) (cs : Nat → ClassId) (O : Mem_) : Nat × Nat × Nat → va_E
  | (c, n, 0) => .inr (c, fls ad O c n)
  | (c, n, p + 1) => .inl (cs (aty c (p + 1)), aln c (p + 1), bif (aty c (p + 1)).blt 2 then .inl (O c n (p + 1)) else bif (aty c (p + 1)).beq 5 then .inr (.inl fun i => rdL O c n (p + 1) i) else .inr (.inr (.inr (.inr fun i => some (rad ad (aref c n (p + 1) i))))))
def wo (lw : Nat) (ad : AD_) (cs : Nat → ClassId) (O : Mem_) : va_W := (cellsL lw).map fun x => (ad x.1 x.2.1 x.2.2, cel ad cs O x)
theorem wo_get {lw : Nat} {ad : AD_} {cs : Nat → ClassId} {O : Mem_} {q : Nat} {x : Nat × Nat × Nat} (h : (cellsL lw)[q]? = some x) : (wo lw ad cs O)[q]? = some (ad x.1 x.2.1 x.2.2, cel ad cs O x) := by
  unfold wo
  rw [List.getElem?_map, h]
  rfl
theorem wo_set {lw : Nat} {ad : AD_} {cs : Nat → ClassId} {O O' : Mem_} {q : Nat} {x : Nat × Nat × Nat} (h : (cellsL lw)[q]? = some x) (hk : ∀ y ∈ (cellsL lw), y ≠ x → cel ad cs O' y = cel ad cs O y) : (wo lw ad cs O).set q (ad x.1 x.2.1 x.2.2, cel ad cs O' x) = wo lw ad cs O' := by
  apply List.ext_getElem?
  intro j
  have hl : q < (wo lw ad cs O).length := (List.getElem?_eq_some_iff.mp (wo_get h)).1
  by_cases hj : j = q
  · subst hj
    rw [List.getElem?_set_self hl, wo_get h]
  · rw [List.getElem?_set_ne (Ne.symm hj)]
    unfold wo
    rw [List.getElem?_map, List.getElem?_map]
    cases hy : (cellsL lw)[j]? with
    | none => rfl
    | some y =>
      have hne : y ≠ x := by
        intro e
        subst e
        exact hj (nd_inj _ (cells_nd lw) j q _ hy h)
      rw [Option.map_some, Option.map_some, hk y (List.mem_of_getElem? hy) hne]
theorem gfv_congr {O O' : Mem_} {z c n k : Nat} (h : O' c n 0 k = O c n 0 k) : gfv z c n k O' = gfv z c n k O := by
  match z with
  | 0 => simp only [gfv, h]
  | 1 => rfl
  | 2 => simp only [gfv, h]
  | m + 3 => rfl
theorem cel_congr {ad : AD_} {cs : Nat → ClassId} {O O' : Mem_} {x : Nat × Nat × Nat} (h : O' x.1 x.2.1 x.2.2 = O x.1 x.2.1 x.2.2) : cel ad cs O' x = cel ad cs O x := by
  obtain ⟨c, n, p⟩ := x
  cases p with
  | zero =>
    simp only [cel, fls]
    congr 2
    apply List.map_congr_left
    intro k _
    rw [gfv_congr (congrFun h k)]
  | succ p =>
    have h : O' c n (p + 1) = O c n (p + 1) := h
    simp only [cel, rdL, h]
theorem wup_ne {O : Mem_} {c n p j : Nat} {v : Int32} {c' n' p' : Nat} (h : (c', n', p') ≠ (c, n, p)) : up O c n p j v c' n' p' = O c' n' p' := by
  funext j'
  unfold up
  rw [if_neg]
  rintro ⟨rfl, rfl, rfl, -⟩
  exact h rfl
theorem wup_eq (O : Mem_) (c n p j : Nat) (v : Int32) : up O c n p j v c n p = upd (O c n p) j v := by
  funext j'
  simp [up, upd]
theorem up_at (O : Mem_) (c n p j : Nat) (v : Int32) (k : Nat) : up O c n p j v c n p k = if k = j then v else O c n p k := by simp [up]
theorem cpy_ne {O : Mem_} {c0 n0 p0 c n p sp dp len : Nat} {c' n' p' : Nat} (h : (c', n', p') ≠ (c, n, p)) : cpy O c0 n0 p0 c n p sp dp len c' n' p' = O c' n' p' := by
  funext j'
  unfold cpy
  rw [if_neg]
  rintro ⟨rfl, rfl, rfl, -⟩
  exact h rfl
theorem cpy_eq (O : Mem_) (c0 n0 p0 c n p sp dp len : Nat) : cpy O c0 n0 p0 c n p sp dp len c n p = va_cpy (O c0 n0 p0) (O c n p) sp dp len := by
  funext j'
  simp [cpy, va_cpy]
theorem fls_get {ad : AD_} {O : Mem_} {c n k : Nat} (hk : k < (rcl c).2.2) : (fls ad O c n)[k]? = some (cv ad (gfv (fkd c k) c n k O)) := by
  unfold fls
  rw [List.getElem?_map, List.getElem?_range hk]
  rfl
theorem fls_len (ad : AD_) (O : Mem_) (c n : Nat) : (fls ad O c n).length = (rcl c).2.2 := by simp [fls]
theorem fls_set {ad : AD_} {O : Mem_} {c n y : Nat} {a : Int32} {v : Value} (hy : y < (rcl c).2.2) (hv : cv ad (gfv (fkd c y) c n y (up O c n 0 y a)) = v) : (fls ad O c n).set y v = fls ad (up O c n 0 y a) c n := by
  apply List.ext_getElem?
  intro j
  by_cases hj : j = y
  · subst hj
    rw [List.getElem?_set_self (by rw [fls_len]; exact hy), fls_get hy, hv]
  · rw [List.getElem?_set_ne (Ne.symm hj)]
    by_cases hl : j < (rcl c).2.2
    · rw [fls_get hl, fls_get hl, gfv_congr]
      rw [up_at, if_neg hj]
    · rw [List.getElem?_eq_none (by rw [fls_len]; omega), List.getElem?_eq_none (by rw [fls_len]; omega)]
/-- the cells lie apart, and where they may be written -/
def Inj_ (lw : Nat) (ad : AD_) (A : Nat → Prop) : Prop := (∀ x ∈ (cellsL lw), ∀ y ∈ (cellsL lw), ad x.1 x.2.1 x.2.2 = ad y.1 y.2.1 y.2.2 → x = y) ∧ ∀ x ∈ (cellsL lw), A (ad x.1 x.2.1 x.2.2)
theorem Inj_.D {lw : Nat} {ad : AD_} {A : Nat → Prop} {cs : Nat → ClassId} {O : Mem_} (h : Inj_ lw ad A) : va_D A (wo lw ad cs O) := by
  have key : ∀ (k : Nat) (q : Nat × va_E), (wo lw ad cs O)[k]? = some q → ∃ x, (cellsL lw)[k]? = some x ∧ q.1 = ad x.1 x.2.1 x.2.2 := by
    intro k q hq
    unfold wo at hq
    rw [List.getElem?_map] at hq
    cases hx : (cellsL lw)[k]? with
    | none => rw [hx] at hq; cases hq
    | some x => rw [hx] at hq; cases hq; exact ⟨x, rfl, rfl⟩
  refine ⟨fun i j p q hi hj hpq => ?_, fun k q hk => ?_⟩
  · obtain ⟨x, hx, ex⟩ := key i p hi
    obtain ⟨y, hy, ey⟩ := key j q hj
    have e := h.1 x (List.mem_of_getElem? hx) y (List.mem_of_getElem? hy) (by rw [← ex, ← ey]; exact hpq)
    subst e
    exact nd_inj _ (cells_nd lw) i j _ hx hy
  · obtain ⟨x, hx, ex⟩ := key k q hk
    rw [ex]
    exact h.2 x (List.mem_of_getElem? hx)
/-! locals -/
def asc (ad : AD_) : Nat → Lv_ → List (Nat × Value)
  | _, [] => []
  | i, none :: l => asc ad (i + 1) l
  | i, some v :: l => (i, cv ad v) :: asc ad (i + 1) l
theorem asc_ge {ad : AD_} : ∀ (l : Lv_) (i : Nat), ∀ q ∈ asc ad i l, i ≤ q.1
  | [], _, q, h => by cases h
  | none :: l, i, q, h => Nat.le_of_succ_le (asc_ge l (i + 1) q h)
  | some v :: l, i, q, h => by
    rcases List.mem_cons.mp h with rfl | h
    · exact Nat.le_refl _
    · exact Nat.le_of_succ_le (asc_ge l (i + 1) q h)
theorem asc_ln {ad : AD_} {v : V_} : ∀ (l : Lv_) (i k : Nat), ln l k = some v → (i + k, cv ad v) ∈ asc ad i l
  | [], _, k, h => by cases k <;> cases h
  | x :: l, i, 0, h => by
    have h : x = some v := h
    subst h
    exact List.mem_cons_self
  | x :: l, i, k + 1, h => by
    have h2 := asc_ln (ad := ad) l (i + 1) k h
    rw [show i + (k + 1) = i + 1 + k by omega]
    cases x with
    | none => exact h2
    | some y => exact List.mem_cons_of_mem _ h2
theorem asc_tail {ad : AD_} : ∀ (l : Lv_) (i : Nat), ∀ q ∈ asc ad (i + 1) l.tail, q ∈ asc ad i l
  | [], _, q, h => by cases h
  | none :: l, i, q, h => h
  | some v :: l, i, q, h => List.mem_cons_of_mem _ h
theorem cv_cat2 {ad : AD_} {v : V_} (h : (cv ad v).category = 2) : ∃ x, v = vl x := by
  match v, h with
  | Sum.inl x, h => cases h
  | Sum.inr (Sum.inl x), h => exact ⟨x, rfl⟩
  | Sum.inr (Sum.inr (c, n, p)), h => cases h
theorem asc_ls0 {ad : AD_} {v : V_} (l : Lv_) (i : Nat) : ∀ q ∈ asc ad i (ls0 l v), q = (i, cv ad v) ∨ (q ∈ asc ad i l ∧ i < q.1 ∧ ((cv ad v).category = 2 → i + 1 < q.1)) := by
  intro q hq
  have gen : ∀ (w : V_), (¬ ∃ x, w = vl x) → q ∈ asc ad i (ls0 l w) → q = (i, cv ad w) ∨ (q ∈ asc ad i l ∧ i < q.1 ∧ ((cv ad w).category = 2 → i + 1 < q.1)) := by
    intro w hw hq
    have hc : ¬ (cv ad w).category = 2 := fun h => hw (cv_cat2 h)
    cases l with
    | nil =>
      have : q ∈ asc ad i [some w] := by
        match w, hw, hq with
        | Sum.inl x, _, hq => exact hq
        | Sum.inr (Sum.inl x), hw, _ => exact absurd ⟨x, rfl⟩ hw
        | Sum.inr (Sum.inr y), _, hq => exact hq
      rcases List.mem_cons.mp this with e | h
      · exact Or.inl e
      · cases h
    | cons y l =>
      have : q ∈ asc ad i (some w :: l) := by
        match w, hw, hq with
        | Sum.inl x, _, hq => exact hq
        | Sum.inr (Sum.inl x), hw, _ => exact absurd ⟨x, rfl⟩ hw
        | Sum.inr (Sum.inr y), _, hq => exact hq
      rcases List.mem_cons.mp this with e | h
      · exact Or.inl e
      · exact Or.inr ⟨asc_tail (y :: l) i q h, asc_ge l (i + 1) q h, fun z => absurd z hc⟩
  match v, hq with
  | Sum.inl x, hq => exact gen _ (by rintro ⟨y, h⟩; cases h) hq
  | Sum.inr (Sum.inr y), hq => exact gen _ (by rintro ⟨y, h⟩; cases h) hq
  | Sum.inr (Sum.inl x), hq =>
    have hq : q ∈ asc ad i (some (vl x) :: none :: l.tail.tail) := by
      unfold ls0 at hq
      exact hq
    rcases List.mem_cons.mp hq with e | h
    · exact Or.inl e
    · have h : q ∈ asc ad (i + 1 + 1) l.tail.tail := h
      have h1 := asc_ge _ _ q h
      exact Or.inr ⟨asc_tail _ _ q (asc_tail _ _ q h), by omega, fun _ => by omega⟩
theorem asc_lst {ad : AD_} {v : V_} : ∀ (l : Lv_) (i k : Nat), ∀ q ∈ asc ad i (lst l k v), q = (i + k, cv ad v) ∨ (q ∈ asc ad i l ∧ q.1 ≠ i + k ∧ ¬ (q.1 + 1 = i + k ∧ q.2.category = 2) ∧ ((cv ad v).category = 2 → q.1 ≠ i + k + 1)) := by
  intro l
  induction l with
  | nil =>
    intro i k
    induction k generalizing i with
    | zero =>
      intro q hq
      have hq : q ∈ asc ad i (ls0 [] v) := by unfold lst at hq; exact hq
      rcases asc_ls0 [] i q hq with e | ⟨h, -⟩
      · exact Or.inl e
      · cases h
    | succ k ih =>
      intro q hq
      have hq : q ∈ asc ad (i + 1) (lst [] k v) := by
        cases k with
        | zero => unfold lst at hq; unfold lst; exact hq
        | succ k => unfold lst at hq; exact hq
      rcases ih (i + 1) q hq with e | ⟨h, -⟩
      · exact Or.inl (by rw [e]; congr 1; omega)
      · cases h
  | cons x l ih =>
    intro i k
    match k with
    | 0 =>
      intro q hq
      have hq : q ∈ asc ad i (ls0 (x :: l) v) := by unfold lst at hq; exact hq
      rcases asc_ls0 (x :: l) i q hq with e | ⟨h, h1, h2⟩
      · exact Or.inl e
      · exact Or.inr ⟨h, by omega, by omega, fun z => by have := h2 z; omega⟩
    | 1 =>
      intro q hq
      have hq : q ∈ asc ad i (unl x :: ls0 l v) := by unfold lst at hq; exact hq
      have hr : q ∈ asc ad (i + 1) (ls0 l v) ∨ (∃ w, x = some w ∧ (¬ ∃ y, w = vl y) ∧ q = (i, cv ad w)) := by
        match x, hq with
        | none, hq => exact Or.inl hq
        | some (Sum.inl y), hq =>
          rcases List.mem_cons.mp hq with e | h
          · exact Or.inr ⟨_, rfl, (by rintro ⟨y, h⟩; cases h), e⟩
          · exact Or.inl h
        | some (Sum.inr (Sum.inl y)), hq => exact Or.inl hq
        | some (Sum.inr (Sum.inr y)), hq =>
          rcases List.mem_cons.mp hq with e | h
          · exact Or.inr ⟨_, rfl, (by rintro ⟨y, h⟩; cases h), e⟩
          · exact Or.inl h
      rcases hr with h | ⟨w, rfl, hw, rfl⟩
      · rcases asc_ls0 l (i + 1) q h with e | ⟨h, h1, h2⟩
        · exact Or.inl e
        · exact Or.inr ⟨asc_tail (x :: l) i q h, by omega, by omega, fun z => by have := h2 z; omega⟩
      · refine Or.inr ⟨List.mem_cons_self, by show i ≠ i + 1; omega, fun h => hw (cv_cat2 h.2), fun _ => by show i ≠ i + 1 + 1; omega⟩
    | k + 2 =>
      intro q hq
      have hq : q ∈ asc ad i (x :: lst l (k + 1) v) := by unfold lst at hq; exact hq
      have hr : q ∈ asc ad (i + 1) (lst l (k + 1) v) ∨ (∃ w, x = some w ∧ q = (i, cv ad w)) := by
        cases x with
        | none => exact Or.inl hq
        | some w =>
          rcases List.mem_cons.mp hq with e | h
          · exact Or.inr ⟨w, rfl, e⟩
          · exact Or.inl h
      rcases hr with h | ⟨w, rfl, rfl⟩
      · rcases ih (i + 1) (k + 1) q h with e | ⟨h, h1, h2, h3⟩
        · exact Or.inl (by rw [e]; congr 1; omega)
        · exact Or.inr ⟨asc_tail (x :: l) i q h, by omega, fun z => h2 ⟨by omega, z.2⟩, fun z => by have := h3 z; omega⟩
      · refine Or.inr ⟨List.mem_cons_self, by show i ≠ i + (k + 2); omega, by rintro ⟨h, -⟩; have h : i + 1 = i + (k + 2) := h; omega, fun _ => by show i ≠ i + (k + 2) + 1; omega⟩
theorem asc_msk {ad : AD_} : ∀ (m : List Bool) (l : Lv_) (i : Nat), ∀ q ∈ asc ad i (msk m l), q ∈ asc ad i l
  | [], l, i, q, h => by cases h
  | b :: m, [], i, q, h => by cases h
  | b :: m, x :: l, i, q, h => by
    cases b with
    | false =>
      have h : q ∈ asc ad (i + 1) (msk m l) := h
      exact asc_tail (x :: l) i q (asc_msk m l (i + 1) q h)
    | true =>
      cases x with
      | none => exact asc_msk m l (i + 1) q h
      | some v =>
        rcases List.mem_cons.mp h with e | h
        · rw [e]; exact List.mem_cons_self
        · exact List.mem_cons_of_mem _ (asc_msk m l (i + 1) q h)
theorem asc_ctl {ad : AD_} {ct : List (Nat × List Bool)} {pc : Nat} {l : Lv_} {i : Nat} : ∀ q ∈ asc ad i (ctl ct pc l), q ∈ asc ad i l := by
  unfold ctl
  cases ctk ct pc with
  | none => exact fun _ h => h
  | some m => exact asc_msk m l i
theorem asc_lay {ad : AD_} : ∀ (vs : List V_) (i : Nat), asc ad i (lay vs) = lv_args i (vs.map (cv ad))
  | [], _ => rfl
  | Sum.inl x :: l, i => by
    have := asc_lay (ad := ad) l (i + 1)
    show (i, _) :: _ = (i, _) :: _
    rw [this]
    rfl
  | Sum.inr (Sum.inl x) :: l, i => by
    have := asc_lay (ad := ad) l (i + 2)
    show (i, _) :: _ = (i, _) :: _
    rw [show asc ad (i + 1) (none :: lay l) = asc ad (i + 1 + 1) (lay l) from rfl, this]
    rfl
  | Sum.inr (Sum.inr (c, n, p)) :: l, i => by
    have := asc_lay (ad := ad) l (i + 1)
    show (i, _) :: _ = (i, _) :: _
    rw [this]
    rfl
theorem lg_cons (v : Value) (vs : List Value) : (lg_sl (v :: vs)).length = (if v.category = 2 then 2 else 1) + (lg_sl vs).length := by
  simp only [lg_sl, List.flatMap_cons, List.length_append]
  split <;> rfl
theorem lay_len {ad : AD_} : ∀ (vs : List V_), (lg_sl (vs.map (cv ad))).length = (lay vs).length
  | [] => rfl
  | Sum.inl x :: l => by
    have := lay_len (ad := ad) l
    rw [List.map_cons, lg_cons, this]
    show 1 + _ = (lay l).length + 1
    omega
  | Sum.inr (Sum.inl x) :: l => by
    have := lay_len (ad := ad) l
    rw [List.map_cons, lg_cons, this]
    show 2 + _ = (lay l).length + 1 + 1
    omega
  | Sum.inr (Sum.inr (c, n, p)) :: l => by
    have := lay_len (ad := ad) l
    rw [List.map_cons, lg_cons, this]
    show 1 + _ = (lay l).length + 1
    omega
theorem lv_mono {ls : Array Slot} {nL : Nat} {l l' : List (Nat × Value)} (h : lv_has ls nL l) (hm : ∀ q ∈ l', q ∈ l) : lv_has ls nL l' := ⟨h.1, h.2.1, fun q hq => h.2.2 q (hm q hq)⟩
theorem ok_ln {lw : Nat} {v : V_} : ∀ (l : Lv_) (k : Nat), okL lw l → ln l k = some v → okv lw v
  | [], k, _, h => by cases k <;> cases h
  | x :: l, 0, hl, h => hl v (by have h : x = some v := h; rw [h]; exact List.mem_cons_self)
  | x :: l, k + 1, hl, h => ok_ln l k (fun w hw => hl w (List.mem_cons_of_mem _ hw)) h
theorem ok_lst {lw : Nat} {v : V_} (hv : okv lw v) : ∀ (l : Lv_) (k : Nat), okL lw l → okL lw (lst l k v) := by
  have h0 : ∀ l : Lv_, okL lw l → okL lw (ls0 l v) := by
    intro l hl
    have gen : ∀ l : Lv_, okL lw l → okL lw (match l with | [] => [some v] | _ :: l => some v :: l) := by
      intro l hl w hw
      cases l with
      | nil =>
        rcases List.mem_cons.mp hw with e | h
        · cases e; exact hv
        · cases h
      | cons y l =>
        rcases List.mem_cons.mp hw with e | h
        · cases e; exact hv
        · exact hl w (List.mem_cons_of_mem _ h)
    match v, hv, gen with
    | Sum.inl x, _, gen => have := gen l hl; cases l <;> exact this
    | Sum.inr (Sum.inr x), _, gen => have := gen l hl; cases l <;> exact this
    | Sum.inr (Sum.inl x), hv, _ =>
      intro w hw
      unfold ls0 at hw
      rcases List.mem_cons.mp hw with e | h
      · cases e; exact hv
      · rcases List.mem_cons.mp h with e | h
        · cases e
        · exact hl w (List.mem_of_mem_tail (List.mem_of_mem_tail h))
  have hu : ∀ (x : Option V_) (w : V_), some w = unl x → x = some w := by
    intro x w h
    match x, h with
    | none, h => cases h
    | some (Sum.inl y), h => cases h; rfl
    | some (Sum.inr (Sum.inl y)), h => cases h
    | some (Sum.inr (Sum.inr y)), h => cases h; rfl
  intro l
  induction l with
  | nil =>
    intro k
    induction k with
    | zero => intro hl; unfold lst; exact h0 _ hl
    | succ k ih =>
      intro hl
      have e : lst [] (k + 1) v = none :: lst [] k v := by
        cases k with
        | zero => simp only [lst]
        | succ k => simp only [lst]
      rw [e]
      intro w hw
      rcases List.mem_cons.mp hw with q | h
      · cases q
      · exact ih hl w h
  | cons x l ih =>
    intro k hl
    match k with
    | 0 => unfold lst; exact h0 _ hl
    | 1 =>
      intro w hw
      have hw : some w ∈ unl x :: ls0 l v := by unfold lst at hw; exact hw
      rcases List.mem_cons.mp hw with q | h
      · exact hl w (by rw [hu x w q]; exact List.mem_cons_self)
      · exact h0 l (fun w hw => hl w (List.mem_cons_of_mem _ hw)) w h
    | k + 2 =>
      intro w hw
      have hw : some w ∈ x :: lst l (k + 1) v := by unfold lst at hw; exact hw
      rcases List.mem_cons.mp hw with q | h
      · exact hl w (by rw [← q]; exact List.mem_cons_self)
      · exact ih (k + 1) (fun w hw => hl w (List.mem_cons_of_mem _ hw)) w h
theorem ok_msk {lw : Nat} : ∀ (m : List Bool) (l : Lv_), okL lw l → okL lw (msk m l)
  | [], l, _ => fun w hw => by cases hw
  | b :: m, [], _ => fun w hw => by cases hw
  | b :: m, x :: l, hl => by
    intro w hw
    rcases List.mem_cons.mp hw with q | h
    · cases b with
      | false => cases q
      | true => exact hl w (by have q : some w = x := q; rw [← q]; exact List.mem_cons_self)
    · exact ok_msk m l (fun w hw => hl w (List.mem_cons_of_mem _ hw)) w h
theorem ok_ctl {lw : Nat} {ct : List (Nat × List Bool)} {pc : Nat} {l : Lv_} (hl : okL lw l) : okL lw (ctl ct pc l) := by
  unfold ctl
  cases ctk ct pc with
  | none => exact hl
  | some m => exact ok_msk m l hl
theorem ok_lay {lw : Nat} : ∀ (vs : List V_), okS lw vs → okL lw (lay vs)
  | [], _ => fun w hw => by cases hw
  | Sum.inl x :: l, h => fun w hw => by
    rcases List.mem_cons.mp hw with q | hw
    · cases q; exact trivial
    · exact ok_lay l (fun w hw => h w (List.mem_cons_of_mem _ hw)) w hw
  | Sum.inr (Sum.inl x) :: l, h => fun w hw => by
    rcases List.mem_cons.mp hw with q | hw
    · cases q; exact trivial
    · rcases List.mem_cons.mp hw with q | hw
      · cases q
      · exact ok_lay l (fun w hw => h w (List.mem_cons_of_mem _ hw)) w hw
  | Sum.inr (Sum.inr (c, n, p)) :: l, h => fun w hw => by
    rcases List.mem_cons.mp hw with q | hw
    · cases q; exact h _ List.mem_cons_self
    · exact ok_lay l (fun w hw => h w (List.mem_cons_of_mem _ hw)) w hw
theorem hlt_s {ad : AD_} : ∀ (l : List (Nat × Nat)) (lv : Lv_) (i : Nat), hlt l lv = true → asc ad i lv = (l.zipIdx i).map fun q => (q.2, Value.ref (ad q.1.1 0 q.1.2))
  | [], [], i, _ => rfl
  | [], none :: _, i, h => by cases h
  | [], some _ :: _, i, h => by cases h
  | (c, p) :: l, [], i, h => by cases h
  | (c, p) :: l, none :: _, i, h => by cases h
  | (c, p) :: l, some (Sum.inl _) :: _, i, h => by cases h
  | (c, p) :: l, some (Sum.inr (Sum.inl _)) :: _, i, h => by cases h
  | (c, p) :: l, some (Sum.inr (Sum.inr (c', n', p'))) :: m, i, h => by
    have h : (c'.beq c && (n'.beq 0 && (p'.beq p && hlt l m))) = true := h
    simp only [Bool.and_eq_true] at h
    obtain ⟨h1, h2, h3, h4⟩ := h
    obtain rfl := Nat.eq_of_beq_eq_true h1
    obtain rfl := Nat.eq_of_beq_eq_true h2
    obtain rfl := Nat.eq_of_beq_eq_true h3
    have := hlt_s (ad := ad) l m (i + 1) h4
    show (i, _) :: _ = _
    rw [this, List.zipIdx_cons, List.map_cons]
    rfl
theorem lgc_x (v : Int64) : lgc (lgl v) (lgh v) = v := by
  apply Int64.toBitVec_inj.mp
  have a1 : (lgh v).toInt64.toBitVec = ((v.toBitVec.sshiftRight 32).signExtend 32).signExtend 64 := by
    unfold lgh
    rw [Int32.toBitVec_toInt64, Int64.toBitVec_toInt32]
    rfl
  have a2 : (lgl v).toInt64.toBitVec = (v.toBitVec.signExtend 32).signExtend 64 := by
    unfold lgl
    rw [Int32.toBitVec_toInt64, Int64.toBitVec_toInt32]
  have a3 : (lgc (lgl v) (lgh v)).toBitVec = ((lgh v).toInt64.toBitVec <<< 32) ||| ((lgl v).toInt64.toBitVec &&& 4294967295#64) := by
    unfold lgc
    rw [Int64.toBitVec_or, Int64.toBitVec_and]
    rfl
  rw [a3, a1, a2]
  apply BitVec.eq_of_getLsbD_eq
  intro i hi
  rw [BitVec.getLsbD_or, BitVec.getLsbD_and, BitVec.getLsbD_shiftLeft]
  have c : (4294967295#64).getLsbD i = decide (i < 32) := by
    show Nat.testBit 4294967295 i = _
    rw [show (4294967295 : Nat) = 2 ^ 32 - 1 by decide, Nat.testBit_two_pow_sub_one]
  rw [c, BitVec.getLsbD_signExtend, BitVec.getLsbD_signExtend, BitVec.getLsbD_signExtend, BitVec.getLsbD_signExtend, BitVec.getLsbD_sshiftRight]
  by_cases h : i < 32
  · simp [h, hi]
  · have h2 : 32 + (i - 32) = i := by omega
    have h3 : i - 32 < 32 := by omega
    have h4 : i - 32 < 64 := by omega
    have h5 : ¬ 64 ≤ i - 32 := by omega
    simp [h, hi, h2, h3, h4, h5]
theorem rdL_ne {O O' : Mem_} {c n p j : Nat} (h : O' c n p = O c n p) : rdL O' c n p j = rdL O c n p j := by
  unfold rdL
  rw [h]
theorem rdL_up (O : Mem_) (c n p j : Nat) (v : Int64) (k : Nat) : rdL (upL O c n p j v) c n p k = if k = j then v else rdL O c n p k := by
  unfold rdL upL
  by_cases h : k = j
  · subst h
    rw [if_pos rfl]
    rw [show up (up O c n p (2 * k) (lgl v)) c n p (2 * k + 1) (lgh v) c n p (2 * k) = lgl v from by unfold up; rw [if_neg (by omega), if_pos ⟨rfl, rfl, rfl, rfl⟩]]
    rw [show up (up O c n p (2 * k) (lgl v)) c n p (2 * k + 1) (lgh v) c n p (2 * k + 1) = lgh v from by unfold up; rw [if_pos ⟨rfl, rfl, rfl, rfl⟩]]
    exact lgc_x v
  · rw [if_neg h]
    unfold up
    rw [if_neg (by omega), if_neg (by omega), if_neg (by omega), if_neg (by omega)]
theorem upL_ne {O : Mem_} {c n p j : Nat} {v : Int64} {c' n' p' : Nat} (h : (c', n', p') ≠ (c, n, p)) : upL O c n p j v c' n' p' = O c' n' p' := by
  unfold upL
  rw [wup_ne h, wup_ne h]
end
section
/-! THE MACHINE DOES WHAT THE ABSTRACT ONE DOES: one step. -/
def tyL (cs : Nat → ClassId) : List (ClassId × FieldType) := [(cs 0, .int), (cs 1, .boolean), (cs 2, .object RX1), (cs 3, .object RX0), (cs 4, .array .int), (cs 5, .long)]
def sln : List Nat := [5, 5, 4, 5, 4, 7, 5, 3, 4, 5, 6, 6]
/-- what is so of the tables, the constants and the statics, whoever is called -/
def Ev (D : va_G) (ad : AD_) (cs : Nat → ClassId) (adV : Nat → Nat) (A : Nat → Prop) (s : State) : Prop :=
  va_K D vwCl (tyL cs) s ∧ vk_S 12 sln sT (fun i => ad 9 i 0) adV A s s.heap ∧ va_Z RJ0 "COMPACT_STRINGS" "Z" (.int 1) A s s.heap ∧ va_Zq RJ3 "SIOOBE_FORMATTER" "Ljava/util/function/BiFunction;" A s s.heap ∧
  (∀ i : Nat, i < 12 → vk_R RX3 (sdx_.getD i 0) (stx_.getD i "") (ad 9 i 0) s) ∧ ∀ q ∈ nst_, va_Nw (.methodLinkNest q.1 q.2.1 q.2.2.1 q.2.2.2) s
theorem Ev.same {D : va_G} {ad : AD_} {cs : Nat → ClassId} {adV : Nat → Nat} {A : Nat → Prop} {s U : State} (hv : U.vm = s.vm) (hh : U.heap = s.heap) (h : Ev D ad cs adV A s) : Ev D ad cs adV A U := by
  obtain ⟨h1, h2, h3, h4, h5, h6⟩ := h
  have ha : s.vm.Alike U.vm := by rw [hv]; exact Vm.Alike.refl _
  exact ⟨va_K.moved ha h1, by rw [hh]; exact vk_S.moved ha h2, by rw [hh]; exact va_Z.moved ha h3, by rw [hh]; exact va_Zq.moved ha h4, fun i hi => vk_R.same hv (h5 i hi), fun q hq => va_Nw.same rfl hv.symm (h6 q hq)⟩
theorem Ev.warm {D : va_G} {ad : AD_} {cs : Nat → ClassId} {adV : Nat → Nat} {A B : Nat → Prop} {s U : State} {H : Heap} {locs : List Loc} (hW : s.WarmedH U.vm) (hh : U.heap = H) (hS : va_S A s.heap H locs) (hAB : ∀ q, B q → A q) (h : Ev D ad cs adV A s) : Ev D ad cs adV B U := by
  obtain ⟨h1, h2, h3, h4, h5, h6⟩ := h
  have ha := hW.alike
  subst hh
  exact ⟨va_K.moved ha h1, ((h2.moved ha).kept hS.2.1).narrow hAB, ((h3.moved ha).kept hS.2.1).narrow hAB, ((h4.moved ha).kept hS.2.1).narrow hAB, fun i hi => vk_R.warm hW (h5 i hi), fun q hq => va_Nw.warmM hW (h6 q hq)⟩
def Fr (p : Program) (s : State) (m : MethodId) (args : Array Value) (c : Code) (own : String) (cb : ByteArray) (ml : Nat) : Prop :=
  p.tables.exec = Jvm.exec ∧ c.code = cb ∧ c.maxLocals = ml ∧ s.vm.findClass own = some m.cls ∧ ∀ w ∈ wsL_law, w.before args s = true
/-- the cells of the world -/
def Aw (lw : Nat) (ad : AD_) : Nat → Prop := fun q => ∃ x ∈ cellsL lw, q = ad x.1 x.2.1 x.2.2
def mwd (x : Nat) : List Jvm.Cond := .code (mcl x).1 (mcl x).2.1 (mcl x).2.2.1 (mcl x).2.2.2 :: wsL_law
/-- the script, as it was -/
def Scr (ad : AD_) (A : Nat → Prop) (s : State) (O0 : Mem_) : Prop := ∃ (L : Nat) (xs : Nat → Int32), L < 2 ^ 31 ∧ va_X (ad 8 0 0) L xs s s.heap ∧ ad 8 0 0 < s.heap.size ∧ ¬ A (ad 8 0 0) ∧ O0 8 0 1 0 = nI L ∧ ∀ j, j < L → O0 8 0 0 j = xs j
theorem Scr.warm {ad : AD_} {A B : Nat → Prop} {s U : State} {H : Heap} {locs : List Loc} {O O' : Mem_} (hW : s.WarmedH U.vm) (hh : U.heap = H) (hS : va_S A s.heap H locs) (hAB : ∀ q, B q → A q) (h8 : O' 8 = O 8) (h : Scr ad A s O) : Scr ad B U O' := by
  obtain ⟨L, xs, hL, hX, hbl, hbA, hlen, hxs⟩ := h
  subst hh
  exact ⟨L, xs, hL, (hX.moved hW.alike).kept (hS.2.1 _ hbl hbA), Nat.lt_of_lt_of_le hbl hS.1, fun q => hbA (hAB _ q), by rw [h8]; exact hlen, fun j hj => by rw [h8]; exact hxs j hj⟩
theorem Scr.same {ad : AD_} {A : Nat → Prop} {s U : State} {O : Mem_} (hv : U.vm = s.vm) (hh : U.heap = s.heap) (h : Scr ad A s O) : Scr ad A U O := by
  obtain ⟨L, xs, hL, hX, hbl, hbA, hlen, hxs⟩ := h
  have ha : s.vm.Alike U.vm := by rw [hv]; exact Vm.Alike.refl _
  exact ⟨L, xs, hL, by rw [hh]; exact hX.moved ha, by rw [hh]; exact hbl, hbA, hlen, hxs⟩
def mPj (D : va_G) (lw : Nat) (ad : AD_) (cs : Nat → ClassId) (adV : Nat → Nat) (a : List V_) (O : Mem_) : Array Value → State → Prop := va_Pc (a.map (cv ad)) (fun U => va_P D vwCl (wo lw ad cs O) U.heap ∧ Ev D ad cs adV (Aw lw ad) U)
def mPc (D : va_G) (lw : Nat) (ad : AD_) (cs : Nat → ClassId) (adV : Nat → Nat) (a : List V_) (O : Mem_) : Array Value → State → Prop := va_Pc (a.map (cv ad)) (fun U => va_P D vwCl (wo lw ad cs O) U.heap ∧ Ev D ad cs adV (Aw lw ad) U ∧ Scr ad (Aw lw ad) U O)
def mQc (D : va_G) (lw : Nat) (ad : AD_) (cs : Nat → ClassId) (rt : Option FieldType) (r : Rs_) : Array Value → State → Outcome → State → Prop := match rt with
  | none => va_Qv (S := Unit) (fun _ => True) (fun _ t => va_P D vwCl (wo lw ad cs r.2) t.heap) (Aw lw ad)
  | some _ => va_Qi (S := Unit) (fun v _ => v = r.1) (fun _ t => va_P D vwCl (wo lw ad cs r.2) t.heap) (Aw lw ad)
def CallOK (l : Launch) (f : Nat → Nat → Lv_ → List V_ → Mem_ → Option Rs_) (rm : Room) (D : va_G) (lw : Nat) (ad : AD_) (cs : Nat → ClassId) (adV : Nat → Nat) : Prop :=
  ∀ (x : Nat) (a : List V_) (O : Mem_) (r : Rs_), x < 218 → f x 0 (lay a) [] O = some r → okS lw a → (lay a).length ≤ (mcl x).2.2.1 →
    Met l (mcl x).1 (mwd x) rm (mPc D lw ad cs adV a O) (mQc D lw ad cs (mcl x).2.2.2 r) 0 0 (Aw lw ad)
/-- length() and charAt(k) of the String constants -/
def JdkOK (l : Launch) (rm : Room) (D : va_G) (lw : Nat) (ad : AD_) (cs : Nat → ClassId) (adV : Nat → Nat) : Prop :=
  (∀ (i : Nat) (O : Mem_), i < 12 → Met l yJ0_length_8abf5 (.code yJ0_length_8abf5 cJ0_length_8abf5 1 (some .int) :: wsL_law) rm (mPj D lw ad cs adV [vr 9 i 0] O) (mQc D lw ad cs (some .int) (nI (sT.getD i []).length, O)) 0 0 (Aw lw ad)) ∧
  ∀ (i : Nat) (k : Int32) (O : Mem_), i < 12 → ib k (sT.getD i []).length = true → Met l yJ0_charAt_5068e (.code yJ0_charAt_5068e cJ0_charAt_5068e 2 (some .char) :: wsL_law) rm (mPj D lw ad cs adV [vr 9 i 0, vi k] O) (mQc D lw ad cs (some .char) ((sT.getD i []).getD k.toNatClampNeg 0, O)) 0 0 (Aw lw ad)
def GoW (p : Program) (l : Launch) (e : Env) (R : Room) (s : State) (m : MethodId) (args : Array Value) (below : List Frame) (meth : Method) (c : Code) (cells slots : Nat) (Q : State → Prop) (D : va_G) (ad : AD_) (cs : Nat → ClassId) (A : Nat → Prop) (O0 : Mem_) (lw : Nat) (ml : Nat) (res : Rs_) (go : Go_) : Prop :=
  ∀ (pc : Nat) (lv : Lv_) (st : List V_) (O : Mem_) (H : Heap) (locs : List Loc) (ls : Array Slot), go pc lv st O = some res → O 8 = O0 8 → okL lw lv → okS lw st → va_P D vwCl (wo lw ad cs O) H → va_S A s.heap H locs → lv_has ls ml (asc ad 0 lv) → W p l e R s m args below meth c H locs cells slots Q (F0 m pc ls (st.map (cv ad)))
theorem wq_at {i : Nat} {w : Jvm.Cond} (h : wq i w = true) : w ∈ wsL_law := by
  have h1 := List.mem_of_getElem? (of_decide_eq_true h)
  rw [wsF_in]
  refine List.mem_append_left _ (List.mem_flatten.mpr ⟨_, ?_, h1⟩)
  rw [List.getD_eq_getElem?_getD] at h1 ⊢
  cases hq : wsF[i / 24]? with
  | none => rw [hq] at h1; cases h1
  | some l => rw [Option.getD_some]; exact List.mem_of_getElem? hq
set_option maxRecDepth 20000 in
theorem ws_good : wsL_law.all goodWord = true := by decide +kernel
theorem ws_goodIn {ws : List Jvm.Cond} (h : ∀ w ∈ ws, w ∈ wsL_law) : GoodIn wsL_law ws := fun w hw => ⟨h w hw, good_of_word (List.all_eq_true.mp ws_good w (h w hw))⟩
theorem pI_s {st : List V_} {g : Int32 → List V_ → Option Rs_} {r : Rs_} (h : pI st g = some r) : ∃ a s, st = vi a :: s ∧ g a s = some r := by
  unfold pI at h; split at h
  · exact ⟨_, _, rfl, h⟩
  · cases h
theorem pII_s {st : List V_} {g : Int32 → Int32 → List V_ → Option Rs_} {r : Rs_} (h : pII st g = some r) : ∃ a b s, st = vi b :: vi a :: s ∧ g a b s = some r := by
  unfold pII at h; split at h
  · exact ⟨_, _, _, rfl, h⟩
  · cases h
theorem pL_s {st : List V_} {g : Int64 → List V_ → Option Rs_} {r : Rs_} (h : pL st g = some r) : ∃ a s, st = vl a :: s ∧ g a s = some r := by
  unfold pL at h; split at h
  · exact ⟨_, _, rfl, h⟩
  · cases h
theorem pLL_s {st : List V_} {g : Int64 → Int64 → List V_ → Option Rs_} {r : Rs_} (h : pLL st g = some r) : ∃ a b s, st = vl b :: vl a :: s ∧ g a b s = some r := by
  unfold pLL at h; split at h
  · exact ⟨_, _, _, rfl, h⟩
  · cases h
theorem pLI_s {st : List V_} {g : Int64 → Int32 → List V_ → Option Rs_} {r : Rs_} (h : pLI st g = some r) : ∃ a b s, st = vi b :: vl a :: s ∧ g a b s = some r := by
  unfold pLI at h; split at h
  · exact ⟨_, _, _, rfl, h⟩
  · cases h
theorem pR_s {st : List V_} {g : Nat → Nat → Nat → List V_ → Option Rs_} {r : Rs_} (h : pR st g = some r) : ∃ c n q s, st = vr c n q :: s ∧ g c n q s = some r := by
  unfold pR at h; split at h
  · exact ⟨_, _, _, _, rfl, h⟩
  · cases h
theorem pRI_s {st : List V_} {g : Nat → Nat → Nat → Int32 → List V_ → Option Rs_} {r : Rs_} (h : pRI st g = some r) : ∃ c n q i s, st = vi i :: vr c n q :: s ∧ g c n q i s = some r := by
  unfold pRI at h; split at h
  · exact ⟨_, _, _, _, _, rfl, h⟩
  · cases h
theorem pRII_s {st : List V_} {g : Nat → Nat → Nat → Int32 → Int32 → List V_ → Option Rs_} {r : Rs_} (h : pRII st g = some r) : ∃ c n q i v s, st = vi v :: vi i :: vr c n q :: s ∧ g c n q i v s = some r := by
  unfold pRII at h; split at h
  · exact ⟨_, _, _, _, _, _, rfl, h⟩
  · cases h
theorem pRV_s {st : List V_} {g : Nat → Nat → Nat → V_ → List V_ → Option Rs_} {r : Rs_} (h : pRV st g = some r) : ∃ c n q v s, st = v :: vr c n q :: s ∧ g c n q v s = some r := by
  unfold pRV at h; split at h
  · exact ⟨_, _, _, _, _, rfl, h⟩
  · cases h
theorem gI_s {o : Option V_} {g : Int32 → Option Rs_} {r : Rs_} (h : gI o g = some r) : ∃ a, o = some (vi a) ∧ g a = some r := by
  unfold gI at h; split at h
  · exact ⟨_, rfl, h⟩
  · cases h
theorem gL_s {o : Option V_} {g : Int64 → Option Rs_} {r : Rs_} (h : gL o g = some r) : ∃ a, o = some (vl a) ∧ g a = some r := by
  unfold gL at h; split at h
  · exact ⟨_, rfl, h⟩
  · cases h
theorem gR_s {o : Option V_} {g : Nat → Nat → Nat → Option Rs_} {r : Rs_} (h : gR o g = some r) : ∃ c n q, o = some (vr c n q) ∧ g c n q = some r := by
  unfold gR at h; split at h
  · exact ⟨_, _, _, rfl, h⟩
  · cases h
theorem ib_in {i : Int32} {N : Nat} (h : ib i N = true) : vp_in i N := by
  simp only [ib, Bool.and_eq_true, decide_eq_true_eq] at h
  rintro (q | q)
  · exact h.1 q
  · exact absurd h.2 (Nat.not_lt.mpr q)
theorem ib_lt {i : Int32} {N : Nat} (h : ib i N = true) : i.toNatClampNeg < N := by
  simp only [ib, Bool.and_eq_true, decide_eq_true_eq] at h
  exact h.2
theorem okS_tl {lw : Nat} {v : V_} {st : List V_} (h : okS lw (v :: st)) : okS lw st := fun w hw => h w (List.mem_cons_of_mem _ hw)
theorem okS_hd {lw : Nat} {v : V_} {st : List V_} (h : okS lw (v :: st)) : okv lw v := h v List.mem_cons_self
theorem okS_cons {lw : Nat} {v : V_} {st : List V_} (hv : okv lw v) (h : okS lw st) : okS lw (v :: st) := fun w hw => by
  rcases List.mem_cons.mp hw with rfl | hw
  · exact hv
  · exact h w hw
theorem okc_cell {lw c n p : Nat} (h : okc lw c n p) (hc : c < 8) : (c, n, p) ∈ cellsL lw := by
  rcases h with h | ⟨rfl, -⟩ | ⟨rfl, -⟩
  · exact h
  · omega
  · omega
theorem cell_at {lw c n p : Nat} (h : (c, n, p) ∈ (cellsL lw)) : ∃ q : Nat, (cellsL lw)[q]? = some (c, n, p) := List.getElem?_of_mem h
theorem aty_lt {c p : Nat} (h : aty c p < 9) : c < 8 := by
  rcases Nat.lt_or_ge c 8 with q | q
  · exact q
  · exfalso
    have : atb.getD c [] = [] := by
      rw [List.getD_eq_getElem?_getD, List.getElem?_eq_none (by show 8 ≤ c; exact q)]
      rfl
    unfold aty at h
    rw [this] at h
    simp at h
theorem aty_pos {lw c n p : Nat} (h : (c, n, p) ∈ (cellsL lw)) (ha : aty c p < 9) : ∃ p', p = p' + 1 := by
  cases p with
  | zero =>
    have := cell_zero lw _ h rfl
    rw [this] at ha
    omega
  | succ p => exact ⟨p, rfl⟩
theorem cel_int {ad : AD_} {cs : Nat → ClassId} {O : Mem_} {c n p : Nat} {z : Nat} (hz : z < 2) (h : aty c (p + 1) = z) : cel ad cs O (c, n, p + 1) = .inl (cs z, aln c (p + 1), .inl (O c n (p + 1))) := by
  simp only [cel, h]
  rw [show z.blt 2 = true from Nat.blt_eq.mpr hz]
  rfl
theorem rcl_mem {c : Nat} (h : c < 7) : vwCl[c]? = some ((rcl c).1, (rcl c).2.1, (rcl c).2.2) := by
  match c, h with
  | 0, _ => rfl
  | 1, _ => rfl
  | 2, _ => rfl
  | 3, _ => rfl
  | 4, _ => rfl
  | 5, _ => rfl
  | 6, _ => rfl
theorem rcl_in {c : Nat} (h : c < 7) : ∀ w ∈ u_ws (rcl c).1 (rcl c).2.1 (rcl c).2.2, w ∈ wsL_law := by
  match c, h with
  | 0, _ => exact inlX0
  | 1, _ => exact inlX1
  | 2, _ => exact inlX2
  | 3, _ => exact inlX3
  | 4, _ => exact inlX4
  | 5, _ => exact inlX5
  | 6, _ => exact inlX6
theorem rcl_nm {c : Nat} (h : c < 7) : ∀ a, a < (rcl c).2.2 → ∀ b, b < (rcl c).2.2 → a ≠ b → ((rcl c).2.1 a).2.1 ≠ ((rcl c).2.1 b).2.1 := by
  match c, h with
  | 0, _ => exact nmX0
  | 1, _ => exact nmX1
  | 2, _ => exact nmX2
  | 3, _ => exact nmX3
  | 4, _ => exact nmX4
  | 5, _ => exact nmX5
  | 6, _ => exact nmX6
theorem rcl_ty {c : Nat} (h : c < 7) : ∃ ty : Nat → FieldType, ∀ k, k < (rcl c).2.2 → parseFieldDescriptor ((rcl c).2.1 k).2.2.1 = some (ty k) := by
  match c, h with
  | 0, _ => exact ⟨_, tyX0_ok⟩
  | 1, _ => exact ⟨_, tyX1_ok⟩
  | 2, _ => exact ⟨_, tyX2_ok⟩
  | 3, _ => exact ⟨_, tyX3_ok⟩
  | 4, _ => exact ⟨_, tyX4_ok⟩
  | 5, _ => exact ⟨_, tyX5_ok⟩
  | 6, _ => exact ⟨_, tyX6_ok⟩
theorem few_sum {ad : AD_} {n : Nat} {t : List V_} (h : fw_ n t = true) : ((t.map (cv ad)).map fun v => v.category).sum ≤ n := by
  induction t generalizing n with
  | nil => exact Nat.zero_le _
  | cons v t ih =>
    match v with
    | Sum.inl x =>
      cases n with
      | zero => cases h
      | succ n =>
        have h : fw_ n t = true := by cases n <;> exact h
        have := ih h
        simp only [List.map_cons, List.sum_cons]
        show 1 + _ ≤ _
        omega
    | Sum.inr (Sum.inr x) =>
      cases n with
      | zero => cases h
      | succ n =>
        have h : fw_ n t = true := by cases n <;> exact h
        have := ih h
        simp only [List.map_cons, List.sum_cons]
        show 1 + _ ≤ _
        omega
    | Sum.inr (Sum.inl x) =>
      match n, h with
      | 0, h => cases h
      | 1, h => cases h
      | n + 2, h =>
        have h : fw_ n t = true := h
        have := ih h
        simp only [List.map_cons, List.sum_cons]
        show 2 + _ ≤ _
        omega
theorem pN_s {g : List V_ → List V_ → Option Rs_} {r : Rs_} : ∀ (n : Nat) (acc s : List V_), pN n acc s g = some r → ∃ b t, s = b ++ t ∧ b.length = n ∧ g (b.reverse ++ acc) t = some r
  | 0, acc, s, h => ⟨[], s, rfl, rfl, h⟩
  | n + 1, acc, v :: s, h => by
    obtain ⟨b, t, e, hl, hg⟩ := pN_s n (v :: acc) s h
    refine ⟨v :: b, t, by rw [e]; rfl, by simp [hl], ?_⟩
    simpa using hg
  | n + 1, acc, [], h => by cases h
theorem swg_s {a : Int32} {g : Nat → Option Rs_} : ∀ (l : List (Int32 × Nat)) (d : Nat), (∃ (j : Nat) (t : Nat), l[j]? = some (a, t) ∧ swg a l d g = g t) ∨ ((∀ (j k : Nat) (x : Int32), l[j]? = some (x, k) → a ≠ x) ∧ swg a l d g = g d)
  | [], d => Or.inr ⟨fun j k x h => by simp at h, rfl⟩
  | (k, t) :: l, d => by
    by_cases h : a = k
    · subst h
      exact Or.inl ⟨0, t, rfl, by simp [swg]⟩
    · rcases swg_s (a := a) (g := g) l d with ⟨j, t', h1, h2⟩ | ⟨h1, h2⟩
      · exact Or.inl ⟨j + 1, t', h1, by simp [swg, h, h2]⟩
      · refine Or.inr ⟨fun j q x hj => ?_, by simp [swg, h, h2]⟩
        cases j with
        | zero => cases hj; exact h
        | succ j => exact h1 j q x hj
section SND
variable {p : Program} {l : Launch} {e : Env} {R : Room} {s : State} {m : MethodId} {args : Array Value} {below : List Frame} {meth : Method} {c : Code} {cells slots : Nat} {Q : State → Prop}
variable {D : va_G} {ad : AD_} {cs : Nat → ClassId} {adV : Nat → Nat} {A : Nat → Prop} {O0 : Mem_} {lw : Nat} {ml : Nat} {res : Rs_} {go : Go_} {own : String} {cb : ByteArray} {rt : Option FieldType}
variable {pc len x y z : Nat} {k : Int32} {kl : Int64} {lv : Lv_} {st : List V_} {O : Mem_} {H : Heap} {locs : List Loc} {ls : Array Slot}
theorem ex_mem {α : Type} {q : α} {l : List α} (h : q ∈ l) : ∃ k : Nat, l[k]? = some q := List.getElem?_of_mem h
/-- a local is read -/
theorem lc_at (hl : lv_has ls ml (asc ad 0 lv)) {v : V_} (h : ln lv x = some v) : ls[x]? = some (.val (cv ad v)) := by
  have := asc_ln (ad := ad) lv 0 x h
  rw [Nat.zero_add] at this
  exact hl.2.2 _ this
theorem lc_set1 {v : V_} (hc : (cv ad v).category = 1) {ls' : Array Slot} (h : lv_has ls' ml ((x, cv ad v) :: (asc ad 0 lv).filter (fun q => !(q.1 == x) && !(q.1 + 1 == x && q.2.category == 2)))) : lv_has ls' ml (asc ad 0 (lst lv x v)) := by
  refine lv_mono h fun q hq => ?_
  rcases asc_lst lv 0 x q hq with e | ⟨h1, h2, h3, -⟩
  · rw [e, Nat.zero_add]; exact List.mem_cons_self
  · rw [Nat.zero_add] at h2 h3
    refine List.mem_cons_of_mem _ (List.mem_filter.mpr ⟨h1, ?_⟩)
    simp only [Bool.and_eq_true, Bool.not_eq_true', beq_eq_false_iff_ne, ne_eq, Bool.and_eq_false_iff]
    refine ⟨h2, ?_⟩
    by_cases h4 : q.1 + 1 = x
    · exact Or.inr fun h5 => h3 ⟨h4, h5⟩
    · exact Or.inl h4
theorem lc_set2 {v : Int64} {ls' : Array Slot} (h : lv_has ls' ml ((x, Value.long v) :: (asc ad 0 lv).filter (fun q => !(q.1 == x) && (!(q.1 == x + 1) && !(q.1 + 1 == x && q.2.category == 2))))) : lv_has ls' ml (asc ad 0 (lst lv x (vl v))) := by
  refine lv_mono h fun q hq => ?_
  rcases asc_lst lv 0 x q hq with e | ⟨h1, h2, h3, h6⟩
  · rw [e, Nat.zero_add]; exact List.mem_cons_self
  · rw [Nat.zero_add] at h2 h3 h6
    refine List.mem_cons_of_mem _ (List.mem_filter.mpr ⟨h1, ?_⟩)
    simp only [Bool.and_eq_true, Bool.not_eq_true', beq_eq_false_iff_ne, ne_eq, Bool.and_eq_false_iff]
    refine ⟨h2, h6 rfl, ?_⟩
    by_cases h4 : q.1 + 1 = x
    · exact Or.inr fun h5 => h3 ⟨h4, h5⟩
    · exact Or.inl h4
/-- a store into a row of the world -/
theorem wo_row {c0 n p j z : Nat} {v : Int32} (hc : (c0, n, p) ∈ (cellsL lw)) (hz : z < 2) (ha : aty c0 p = z) : ∃ q0 : Nat, (wo lw ad cs O)[q0]? = some (ad c0 n p, .inl (cs z, aln c0 p, .inl (O c0 n p))) ∧
    ∀ f : Nat → Int32, f = upd (O c0 n p) j v → (wo lw ad cs O).set q0 (ad c0 n p, .inl (cs z, aln c0 p, .inl f)) = wo lw ad cs (up O c0 n p j v) := by
  obtain ⟨q0, hq⟩ := cell_at hc
  obtain ⟨p', rfl⟩ := aty_pos hc (by omega)
  refine ⟨q0, ?_, fun f hf => ?_⟩
  · rw [wo_get hq, cel_int hz ha]
  · subst hf
    rw [← wo_set (ad := ad) (cs := cs) (O := O) (O' := up O c0 n (p' + 1) j v) hq (fun y _ hne => cel_congr (wup_ne hne)), cel_int hz ha, wup_eq]
theorem wo_rowC {c0 n p z sp dp len c1 n1 p1 : Nat} (hc : (c0, n, p) ∈ (cellsL lw)) (hz : z < 2) (ha : aty c0 p = z) : ∃ q0 : Nat, (wo lw ad cs O)[q0]? = some (ad c0 n p, .inl (cs z, aln c0 p, .inl (O c0 n p))) ∧
    (wo lw ad cs O).set q0 (ad c0 n p, .inl (cs z, aln c0 p, .inl (va_cpy (O c1 n1 p1) (O c0 n p) sp dp len))) = wo lw ad cs (cpy O c1 n1 p1 c0 n p sp dp len) := by
  obtain ⟨q0, hq⟩ := cell_at hc
  obtain ⟨p', rfl⟩ := aty_pos hc (by omega)
  refine ⟨q0, ?_, ?_⟩
  · rw [wo_get hq, cel_int hz ha]
  · rw [← wo_set (ad := ad) (cs := cs) (O := O) (O' := cpy O c1 n1 p1 c0 n (p' + 1) sp dp len) hq (fun y _ hne => cel_congr (cpy_ne hne)), cel_int hz ha, cpy_eq]
theorem cel_long {O : Mem_} {c n p : Nat} (h : aty c (p + 1) = 5) : cel ad cs O (c, n, p + 1) = .inl (cs 5, aln c (p + 1), .inr (.inl fun i => rdL O c n (p + 1) i)) := by
  simp only [cel, h]
  rfl
theorem wo_rowL {c0 n p j : Nat} {v : Int64} (hc : (c0, n, p) ∈ (cellsL lw)) (ha : aty c0 p = 5) : ∃ q0 : Nat, (wo lw ad cs O)[q0]? = some (ad c0 n p, .inl (cs 5, aln c0 p, .inr (.inl fun i => rdL O c0 n p i))) ∧
    (wo lw ad cs O).set q0 (ad c0 n p, .inl (cs 5, aln c0 p, .inr (.inl (vp_updL (fun i => rdL O c0 n p i) j v)))) = wo lw ad cs (upL O c0 n p j v) := by
  obtain ⟨q0, hq⟩ := cell_at hc
  obtain ⟨p', rfl⟩ := aty_pos hc (by omega)
  refine ⟨q0, ?_, ?_⟩
  · rw [wo_get hq, cel_long ha]
  · rw [← wo_set (ad := ad) (cs := cs) (O := O) (O' := upL O c0 n (p' + 1) j v) hq (fun y _ hne => cel_congr (upL_ne hne)), cel_long ha]
    have e : vp_updL (fun i => rdL O c0 n (p' + 1) i) j v = fun i => rdL (upL O c0 n (p' + 1) j v) c0 n (p' + 1) i := by
      funext k
      rw [rdL_up]
      rfl
    rw [e]
theorem ty_at {z : Nat} (hz : z < 2) : (tyL cs)[z]? = some (cs z, if z = 0 then .int else .boolean) := by
  match z, hz with
  | 0, _ => rfl
  | 1, _ => rfl
theorem upL8 {c0 n p j : Nat} {v : Int64} (h : c0 < 8) : upL O c0 n p j v 8 = O 8 := by
  funext a b d
  unfold upL up
  rw [if_neg (by omega), if_neg (by omega)]
theorem up8 {c0 n p j : Nat} {v : Int32} (h : c0 < 8) : up O c0 n p j v 8 = O 8 := by
  funext a b d
  unfold up
  rw [if_neg (by omega)]
theorem cpy8 {c1 n1 p1 c0 n p sp dp len : Nat} (h : c0 < 8) : cpy O c1 n1 p1 c0 n p sp dp len 8 = O 8 := by
  funext a b d
  unfold cpy
  rw [if_neg (by omega)]
theorem bool_nar {a : Int32} (h : a = 0 ∨ a = 1) : narrow .boolean (.int a) = .int a ∧ fits .boolean (.int a) = true ∧ vp_nar .boolean a = a := by
  rcases h with rfl | rfl <;> decide +kernel
end SND
end
section
/-! THE MACHINE DOES WHAT THE ABSTRACT ONE DOES: a call. -/
theorem aw_in {lw : Nat} {ad : AD_} {A : Nat → Prop} (h : Inj_ lw ad A) : ∀ q, Aw lw ad q → A q := fun q hq => by
  obtain ⟨x, hx, rfl⟩ := hq
  exact h.2 x hx
theorem mPc_bl (D : va_G) (lw : Nat) (ad : AD_) (cs : Nat → ClassId) (adV : Nat → Nat) (a : List V_) (O : Mem_) : FrameBlind (mPc D lw ad cs adV a O) := fun _ _ _ _ h => ⟨h.1, h.2.1, Ev.same rfl rfl h.2.2.1, Scr.same rfl rfl h.2.2.2⟩
theorem mPj_bl (D : va_G) (lw : Nat) (ad : AD_) (cs : Nat → ClassId) (adV : Nat → Nat) (a : List V_) (O : Mem_) : FrameBlind (mPj D lw ad cs adV a O) := fun _ _ _ _ h => ⟨h.1, h.2.1, Ev.same rfl rfl h.2.2⟩
theorem mPj_at {D : va_G} {lw : Nat} {ad : AD_} {cs : Nat → ClassId} {adV : Nat → Nat} {A : Nat → Prop} {s : State} {H : Heap} {locs : List Loc} {a : List V_} {O : Mem_} {As : List Value} (hAs : a.map (cv ad) = As) (E : Ev D ad cs adV A s) (hin : Inj_ lw ad A) (hP : va_P D vwCl (wo lw ad cs O) H) (hS : va_S A s.heap H locs) :
    ∀ U : State, U.heap = H → s.WarmedH U.vm → mPj D lw ad cs adV a O As.toArray U := by
  intro U hU hW
  subst hAs
  exact ⟨rfl, by rw [hU]; exact hP, Ev.warm hW hU hS (aw_in hin) E⟩
theorem mPc_at {D : va_G} {lw : Nat} {ad : AD_} {cs : Nat → ClassId} {adV : Nat → Nat} {A : Nat → Prop} {s : State} {H : Heap} {locs : List Loc} {a : List V_} {O O0 : Mem_} {As : List Value} (hAs : a.map (cv ad) = As) (E : Ev D ad cs adV A s) (hsc : Scr ad A s O0) (h8 : O 8 = O0 8) (hin : Inj_ lw ad A) (hP : va_P D vwCl (wo lw ad cs O) H) (hS : va_S A s.heap H locs) :
    ∀ U : State, U.heap = H → s.WarmedH U.vm → mPc D lw ad cs adV a O As.toArray U := by
  intro U hU hW
  subst hAs
  exact ⟨rfl, by rw [hU]; exact hP, Ev.warm hW hU hS (aw_in hin) E, hsc.warm hW hU hS (aw_in hin) h8⟩
theorem mw_len3 {x : Nat} (h : mwk x = true) (hl : (mws_.getD x []).length = 3) : (∀ w ∈ ([.code (mcl x).1 (mcl x).2.1 (mcl x).2.2.1 (mcl x).2.2.2, .initialized (mcl x).1.cls, .static (mcl x).1] : List Jvm.Cond), w ∈ wsL_law) := by
  unfold mwk at h
  rw [Bool.and_eq_true] at h
  have h2 := h.2
  revert h2
  match hq : mws_.getD x [], hl with
  | [a, b, c], _ =>
    intro h2
    simp only [Bool.and_eq_true] at h2
    intro w hw
    simp only [List.mem_cons, List.not_mem_nil, or_false] at hw
    rcases hw with rfl | rfl | rfl
    · exact wq_at h2.1.1
    · exact wq_at h2.1.2
    · exact wq_at h2.2
theorem mw_len4 {x : Nat} (h : mwk x = true) (hl : (mws_.getD x []).length = 4) : (∀ w ∈ ([.code (mcl x).1 (mcl x).2.1 (mcl x).2.2.1 (mcl x).2.2.2, .initialized (mcl x).1.cls, .instanceMethod (mcl x).1, .selects (mcl x).1.cls (mcl x).1 (mcl x).1] : List Jvm.Cond), w ∈ wsL_law) := by
  unfold mwk at h
  rw [Bool.and_eq_true] at h
  have h2 := h.2
  revert h2
  match hq : mws_.getD x [], hl with
  | [a, b, c, d], _ =>
    intro h2
    simp only [Bool.and_eq_true] at h2
    intro w hw
    simp only [List.mem_cons, List.not_mem_nil, or_false] at hw
    rcases hw with rfl | rfl | rfl | rfl
    · exact wq_at h2.1.1.1
    · exact wq_at h2.1.1.2
    · exact wq_at h2.1.2
    · exact wq_at h2.2
def zk (go : Go_) (z pc : Nat) (lv : Lv_) (t : List V_) (r : Rs_) : Option Rs_ := match z with
  | 0 => go (pc + 3) lv t r.2
  | _ => go (pc + 3) lv (vi r.1 :: t) r.2
theorem inv_s {call : Cl_} {virt : Bool} {x y z pc : Nat} {lv : Lv_} {st : List V_} {O : Mem_} {go : Go_} {res : Rs_} (h : inv call virt x y z pc lv st O go = some res) : ∃ (a t : List V_) (r : Rs_), st = a.reverse ++ t ∧ a.length = y % 16 ∧ (bif virt then rcv (y / 1024) a else true) = true ∧ (lay a).length ≤ y / 16 % 64 ∧ few t = true ∧ call x a O = some r ∧ zk go z pc lv t r = some res := by
  unfold inv at h
  obtain ⟨b, t, rfl, hb, h⟩ := pN_s _ _ _ h
  rw [List.append_nil] at h
  generalize hc : ((bif virt then rcv (y / 1024) b.reverse else true) && ((lay b.reverse).length.ble (y / 16 % 64) && few t)) = cc at h
  cases cc with
  | false => cases h
  | true =>
    simp only [Bool.and_eq_true] at hc
    have h : (call x b.reverse O).bind _ = some res := h
    cases hr : call x b.reverse O with
    | none => rw [hr] at h; cases h
    | some r =>
      rw [hr] at h
      exact ⟨b.reverse, t, r, by rw [List.reverse_reverse], by rw [List.length_reverse]; exact hb, hc.1, Nat.le_of_ble_eq_true hc.2.1, hc.2.2, hr, h⟩
section SNDC
variable {p : Program} {l : Launch} {e : Env} {R : Room} {s : State} {m : MethodId} {args : Array Value} {below : List Frame} {meth : Method} {c : Code} {cells slots : Nat} {Q : State → Prop}
variable {D : va_G} {ad : AD_} {cs : Nat → ClassId} {adV : Nat → Nat} {A : Nat → Prop} {O0 : Mem_} {lw : Nat} {ml : Nat} {res : Rs_} {go : Go_} {own : String} {cb : ByteArray} {rt : Option FieldType}
variable {f : Nat → Nat → Lv_ → List V_ → Mem_ → Option Rs_} {rm : Room}
variable {pc len x y z : Nat} {k : Int32} {kl : Int64} {lv : Lv_} {st t : List V_} {O : Mem_} {H : Heap} {locs : List Loc} {ls : Array Slot}
theorem snd_back {st0 : List Value} {a : Array Value} {ret : Option FieldType} {r : Rs_} (hr : va_Run p l e R s m args below meth c H locs cells slots 0 0 (F0 m pc ls st0) (t.map (cv ad)) (mQc D lw ad cs ret r a) (Aw lw ad)) (hin : Inj_ lw ad A)
    (IH : GoW p l e R s m args below meth c cells slots Q D ad cs A O0 lw ml res go) (hz : z = 0 ↔ ret = none) (h : zk go z pc lv t r = some res) (h8 : r.2 8 = O0 8) (hlv : okL lw lv) (hst : okS lw t) (hS : va_S A s.heap H locs) (hl : lv_has ls ml (asc ad 0 lv)) :
    W p l e R s m args below meth c H locs cells slots Q (F0 m pc ls st0) := by
  cases ret with
  | none =>
    obtain rfl := hz.mpr rfl
    refine va_callv (a := a) hr hS (fun q _ hq => aw_in hin q hq) (aw_in hin) (fun u t1 H1 locs1 e1 _ _ hB _ _ hS1 => ?_)
    subst e1
    exact IH _ _ _ _ _ _ _ h h8 hlv hst hB hS1 hl
  | some ty =>
    obtain ⟨z, rfl⟩ : ∃ z', z = z' + 1 := by
      cases z with
      | zero => exact absurd (hz.mp rfl) (by intro q; cases q)
      | succ z => exact ⟨z, rfl⟩
    refine va_calli (a := a) hr hS (fun q _ hq => aw_in hin q hq) (aw_in hin) (fun v u t1 H1 locs1 e1 _ hv hB _ _ hS1 => ?_)
    subst e1
    subst hv
    exact IH _ _ _ _ _ _ _ h h8 hlv (okS_cons trivial hst) hB hS1 hl
theorem few_w {m : MethodId} {pc : Nat} {ls : Array Slot} {st0 : List Value} (h : few t = true) : 2 * (F0 m pc ls st0).monitorRoom + ((t.map (cv ad)).map fun v => v.category).sum ≤ 8 := by
  have := few_sum (ad := ad) h
  have h0 : (F0 m pc ls st0).monitorRoom = 0 := rfl
  rw [h0]
  omega
theorem stk_rev {a : List V_} : (a.reverse ++ t).map (cv ad) = (a.map (cv ad)).reverse ++ t.map (cv ad) := by
  rw [List.map_append, List.map_reverse]
theorem mw_in {x : Nat} (h : Jvm.Cond.code (mcl x).1 (mcl x).2.1 (mcl x).2.2.1 (mcl x).2.2.2 ∈ wsL_law) : ∀ w ∈ mwd x, w ∈ wsL_law := by
  intro w hw
  rcases List.mem_cons.mp hw with rfl | hw
  · exact h
  · exact hw
theorem mwk_s {x : Nat} (h : mwk x = true) : plainName (mcl x).1.cls = true ∧ (mcl x).1.cls ≠ "java/lang/invoke/MethodHandle" ∧ (mcl x).1.cls ≠ "java/lang/invoke/VarHandle" ∧ (mcl x).2.2.1 ≤ 20 := by
  unfold mwk at h
  rw [Bool.and_eq_true] at h
  exact of_decide_eq_true h.1
end SNDC
end
section
/-! THE MACHINE DOES WHAT THE ABSTRACT ONE DOES: invokestatic, invokevirtual. -/
theorem intr_c {c0 n0 p0 c n p : Nat} {sp dp k : Int32} {O : Mem_} {r : Rs_} (h : (bif (aty c0 p0).blt 2 && (aty c p).beq (aty c0 p0) then
      if ¬ sp < 0 ∧ ¬ dp < 0 ∧ ¬ k < 0 ∧ sp.toNatClampNeg + k.toNatClampNeg ≤ aln c0 p0 ∧ dp.toNatClampNeg + k.toNatClampNeg ≤ aln c p then
        (bif (aty c0 p0).beq 0 then some (0, cpy O c0 n0 p0 c n p sp.toNatClampNeg dp.toNatClampNeg k.toNatClampNeg)
        else if bok O c0 n0 p0 sp.toNatClampNeg k.toNatClampNeg then some (0, cpy O c0 n0 p0 c n p sp.toNatClampNeg dp.toNatClampNeg k.toNatClampNeg) else none)
      else none
    else none) = some r) : aty c0 p0 < 2 ∧ aty c p = aty c0 p0 ∧ (¬ sp < 0 ∧ ¬ dp < 0 ∧ ¬ k < 0 ∧ sp.toNatClampNeg + k.toNatClampNeg ≤ aln c0 p0 ∧ dp.toNatClampNeg + k.toNatClampNeg ≤ aln c p) ∧ (aty c0 p0 = 0 ∨ bok O c0 n0 p0 sp.toNatClampNeg k.toNatClampNeg = true) ∧ r = (0, cpy O c0 n0 p0 c n p sp.toNatClampNeg dp.toNatClampNeg k.toNatClampNeg) := by
  cases hb : ((aty c0 p0).blt 2 && (aty c p).beq (aty c0 p0)) with
  | false => rw [hb] at h; cases h
  | true =>
    rw [hb, cond_true] at h
    rw [Bool.and_eq_true] at hb
    by_cases hg : ¬ sp < 0 ∧ ¬ dp < 0 ∧ ¬ k < 0 ∧ sp.toNatClampNeg + k.toNatClampNeg ≤ aln c0 p0 ∧ dp.toNatClampNeg + k.toNatClampNeg ≤ aln c p
    · rw [if_pos hg] at h
      refine ⟨Nat.blt_eq.mp hb.1, Nat.eq_of_beq_eq_true hb.2, hg, ?_⟩
      cases h0 : (aty c0 p0).beq 0 with
      | true =>
        rw [h0, cond_true] at h
        exact ⟨Or.inl (Nat.eq_of_beq_eq_true h0), (Option.some.inj h).symm⟩
      | false =>
        rw [h0, cond_false] at h
        by_cases hk : bok O c0 n0 p0 sp.toNatClampNeg k.toNatClampNeg = true
        · rw [if_pos hk] at h
          exact ⟨Or.inr hk, (Option.some.inj h).symm⟩
        · rw [if_neg hk] at h; cases h
    · rw [if_neg hg] at h; cases h
theorem intr_copy {a : List V_} {O : Mem_} {r : Rs_} (h : intr 1000 a O = some r) : ∃ c0 n0 p0 sp c n p dp k, a = [vr c0 n0 p0, vi sp, vr c n p, vi dp, vi k] ∧ aty c0 p0 < 2 ∧ aty c p = aty c0 p0 ∧ (¬ sp < 0 ∧ ¬ dp < 0 ∧ ¬ k < 0 ∧ sp.toNatClampNeg + k.toNatClampNeg ≤ aln c0 p0 ∧ dp.toNatClampNeg + k.toNatClampNeg ≤ aln c p) ∧ (aty c0 p0 = 0 ∨ bok O c0 n0 p0 sp.toNatClampNeg k.toNatClampNeg = true) ∧ r = (0, cpy O c0 n0 p0 c n p sp.toNatClampNeg dp.toNatClampNeg k.toNatClampNeg) := by
  unfold intr at h
  split at h
  · exact ⟨_, _, _, _, _, _, _, _, _, rfl, intr_c h⟩
  all_goals first | (rename_i q; exact absurd q (by decide)) | cases h | skip
theorem intr_len {a : List V_} {O : Mem_} {r : Rs_} (h : intr 1003 a O = some r) : ∃ i, a = [vr 9 i 0] ∧ r = (nI (sT.getD i []).length, O) := by
  unfold intr at h
  split at h
  all_goals first | exact ⟨_, rfl, (Option.some.inj h).symm⟩ | (rename_i q; exact absurd q (by decide)) | cases h | skip
theorem intr_at {a : List V_} {O : Mem_} {r : Rs_} (h : intr 1004 a O = some r) : ∃ i k, a = [vr 9 i 0, vi k] ∧ ib k (sT.getD i []).length = true ∧ r = ((sT.getD i []).getD k.toNatClampNeg 0, O) := by
  unfold intr at h
  split at h
  all_goals first
    | (rename_i i k _
       by_cases hk : ib k (sT.getD i []).length = true
       · rw [if_pos hk] at h
         exact ⟨i, k, rfl, hk, (Option.some.inj h).symm⟩
       · rw [if_neg hk] at h; cases h)
    | (rename_i q; exact absurd q (by decide)) | cases h | skip
theorem wds_x : wq 481 (.native arraycopyName) = true ∧ wq 482 (.static arraycopyName) = true ∧ wq 483 (.initialized "java/lang/System") = true ∧ wq 210 (.instanceMethod yJ0_length_8abf5) = true ∧ wq 211 (.selects RJ0 yJ0_length_8abf5 yJ0_length_8abf5) = true ∧ wq 212 (.initialized RJ0) = true ∧ wq 213 (.code yJ0_length_8abf5 cJ0_length_8abf5 1 (some .int)) = true ∧ wq 222 (.instanceMethod yJ0_charAt_5068e) = true ∧ wq 223 (.selects RJ0 yJ0_charAt_5068e yJ0_charAt_5068e) = true ∧ wq 224 (.code yJ0_charAt_5068e cJ0_charAt_5068e 2 (some .char)) = true := by decide +kernel
section SNDI
variable {p : Program} {l : Launch} {e : Env} {R : Room} {s : State} {m : MethodId} {args : Array Value} {below : List Frame} {meth : Method} {c : Code} {cells slots : Nat} {Q : State → Prop}
variable {D : va_G} {ad : AD_} {cs : Nat → ClassId} {adV : Nat → Nat} {A : Nat → Prop} {O0 : Mem_} {lw : Nat} {ml : Nat} {res : Rs_} {go : Go_} {own : String} {cb : ByteArray} {rt : Option FieldType}
variable {f : Nat → Nat → Lv_ → List V_ → Mem_ → Option Rs_} {rm : Room}
variable {pc len x y z : Nat} {k : Int32} {kl : Int64} {lv : Lv_} {st t : List V_} {O : Mem_} {H : Heap} {locs : List Loc} {ls : Array Slot}
theorem cl_own {a : List V_} {r : Rs_} (hx : x < 1000) (h : cl_ f x a O = some r) : f x 0 (lay a) [] O = some r := by
  have hb : x.blt 1000 = true := Nat.blt_eq.mpr hx
  have h : (bif x.blt 1000 then f x 0 (lay a) [] O else intr x a O) = some r := h
  rw [hb] at h
  exact h
theorem chkL_own {i n : Nat} (hx : x < 1000) (h : ckL own i x y z k n = true) : (x < 218 ∧ (mcl x).2.2.1 = y / 16 % 64 ∧ nPar (mcl x).1 = some n ∧ (z = 0 ↔ (mcl x).2.2.2 = none)) ∧ (bif decide (k < 0) then decide (nst_[(-1 - k).toNatClampNeg]? = some (own, i, (mcl x).1, RX6)) else wq k.toNatClampNeg (.methodLink own i (mcl x).1)) = true := by
  have hb : x.blt 1000 = true := Nat.blt_eq.mpr hx
  unfold ckL at h
  rw [hb, cond_true, Bool.and_eq_true] at h
  exact ⟨of_decide_eq_true h.1, h.2⟩
theorem okS_args {a : List V_} (h : okS lw (a.reverse ++ t)) : okS lw a := fun w hw => h w (List.mem_append_left _ (List.mem_reverse.mpr hw))
theorem okS_rest {a : List V_} (h : okS lw (a.reverse ++ t)) : okS lw t := fun w hw => h w (List.mem_append_right _ hw)
theorem rcv_s {q : Nat} {a : List V_} (h : rcv q a = true) : ∃ n as, a = vr q n 0 :: as := by
  match a, h with
  | Sum.inr (Sum.inr (c', n, p)) :: as, h =>
    have h : (c'.beq q && p.beq 0) = true := h
    rw [Bool.and_eq_true] at h
    obtain rfl := Nat.eq_of_beq_eq_true h.1
    obtain rfl := Nat.eq_of_beq_eq_true h.2
    exact ⟨n, as, rfl⟩
theorem snd_stat {i : Nat} (F : Fr p s m args c own cb ml) (E : Ev D ad cs adV A s) (hsc : Scr ad A s O0) (hin : Inj_ lw ad A) (hcall : CallOK l f rm D lw ad cs adV)
    (hk8 : ∀ (x : Nat) (a : List V_) (O : Mem_) (r : Rs_), f x 0 (lay a) [] O = some r → r.2 8 = O 8) (hrm : rm.cells = 0 ∧ rm.slots = 0 ∧ rm.frames + 1 ≤ R.frames ∧ 39 + rm.locals ≤ R.locals) (hR : 1 ≤ R.frames ∧ 100 ≤ R.locals ∧ cells ≤ R.cells ∧ slots ≤ R.slots)
    (hd : decode cb pc = .ok (.invokestatic i, len)) (h2 : chk2 own ml rt pc (.invokestatic i, len, x, y, z, k, kl) = true)
    (IH : GoW p l e R s m args below meth c cells slots Q D ad cs A O0 lw ml res go)
    (h : inv (cl_ f) false x y z pc lv st O go = some res) (h8 : O 8 = O0 8) (hlv : okL lw lv) (hst : okS lw st) (hP : va_P D vwCl (wo lw ad cs O) H) (hS : va_S A s.heap H locs) (hl : lv_has ls ml (asc ad 0 lv)) :
    W p l e R s m args below meth c H locs cells slots Q (F0 m pc ls (st.map (cv ad))) := by
  obtain ⟨a, t, r, rfl, hal, -, hla, hfew, hr, hg⟩ := inv_s h
  clear h
  rw [stk_rev]
  have h2 : (decide (len = 3) && ckL own i x y z k (y % 16) && (bif x.blt 1000 then decide ((mws_.getD x []).length = 3) else decide (x < 1003))) = true := h2
  rw [Bool.and_eq_true, Bool.and_eq_true] at h2
  obtain ⟨⟨h3, hck⟩, h5⟩ := h2
  obtain rfl : len = 3 := of_decide_eq_true h3
  by_cases hx : x < 1000
  · have hb : x.blt 1000 = true := Nat.blt_eq.mpr hx
    rw [hb, cond_true] at h5
    obtain ⟨⟨hx2, hml2, hn, hz⟩, hlk⟩ := chkL_own hx hck
    have hr := cl_own hx hr
    have hM := hcall x a O r hx2 hr (okS_args hst) (by rw [hml2]; exact hla)
    have hw := mw_len3 (mkA_c218 hx2 (k := 2) (of_decide_eq_true h5)) (of_decide_eq_true h5)
    obtain ⟨-, hc1, hc2, hc3⟩ := mwk_s (mkA_c218 hx2 (k := 2) (of_decide_eq_true h5))
    have hc0 := hw _ List.mem_cons_self
    have hci := hw _ (List.mem_cons_of_mem _ List.mem_cons_self)
    have hcs := hw _ (List.mem_cons_of_mem _ (List.mem_cons_of_mem _ List.mem_cons_self))
    have hpre : PreS s H (mPc D lw ad cs adV a O) (a.map (cv ad)) := ⟨mPc_bl D lw ad cs adV a O, mPc_at rfl E hsc h8 hin hP hS⟩
    cases hneg : decide (k < 0) with
    | true =>
      rw [hneg, cond_true] at hlk
      have hq := List.mem_of_getElem? (of_decide_eq_true hlk)
      refine snd_back (va_runSN F hM ⟨va_cnB (y % 16) F.2.2.2.2 (ws_goodIn (mw_in hc0)) rfl hrm.1 hrm.2.1 (E.2.2.2.2.2 _ hq) (F.2.2.2.2 _ hci) ⟨hc1, hc2, hn⟩ ⟨hrm.2.2.1, by omega⟩, F.2.2.2.2 _ hcs, trivial⟩ hpre rfl (by rw [List.length_map]; exact hal) hl.1 rfl (few_w hfew) hd ⟨hR.2.2.1, hR.2.2.2⟩) hin IH hz hg ((hk8 _ _ _ _ hr).trans h8) hlv (okS_rest hst) hS hl
    | false =>
      rw [hneg, cond_false] at hlk
      refine snd_back (va_runS F hM (va_cwS (y % 16) F.2.2.2.2 (ws_goodIn (fun w hw0 => ?_)) rfl hrm.1 hrm.2.1 ⟨hc1, hc2, hn⟩ ⟨hrm.2.2.1, by omega⟩) hpre rfl (by rw [List.length_map]; exact hal) hl.1 rfl (few_w hfew) hd ⟨hR.2.2.1, hR.2.2.2⟩) hin IH hz hg ((hk8 _ _ _ _ hr).trans h8) hlv (okS_rest hst) hS hl
      rcases List.mem_append.mp hw0 with hw0 | hw0
      · simp only [List.mem_cons, List.not_mem_nil, or_false] at hw0
        rcases hw0 with rfl | rfl | rfl
        · exact wq_at hlk
        · exact hcs
        · exact hci
      · exact mw_in hc0 w hw0
  · have hb : x.blt 1000 = false := by
      cases hq : x.blt 1000 with
      | false => rfl
      | true => exact absurd (Nat.blt_eq.mp hq) hx
    rw [hb, cond_false] at h5
    have h5 := of_decide_eq_true h5
    have hr : (bif x.blt 1000 then f x 0 (lay a) [] O else intr x a O) = some r := hr
    rw [hb, cond_false] at hr
    obtain ⟨hX, hb2, hml, hown, hts⟩ := id F
    obtain ⟨w819, w820, w821, -⟩ := wds_x
    unfold ckL at hck
    rw [hb, cond_false] at hck
    have hf8 : ((t.map (cv ad)).map fun v => v.category).sum ≤ 8 := few_sum hfew
    obtain rfl | rfl | rfl : x = 1000 ∨ x = 1001 ∨ x = 1002 := by omega
    · have hck : (decide (y % 16 = 5 ∧ z = 0) && wq k.toNatClampNeg (.methodLink own i arraycopyName)) = true := hck
      rw [Bool.and_eq_true] at hck
      obtain ⟨-, rfl⟩ := of_decide_eq_true hck.1
      obtain ⟨c0, n0, p0, sp, c1, n1, p1, dp, kk, rfl, ht0, ht1, ⟨g1, g2, g3, g4, g5⟩, hbk, rfl⟩ := intr_copy hr
      have ha := okS_args hst
      have hcA := okc_cell (ha (vr c0 n0 p0) (by simp)) (aty_lt (p := p0) (by omega))
      have hcB := okc_cell (ha (vr c1 n1 p1) (by simp)) (aty_lt (p := p1) (by omega))
      obtain ⟨q0, hq0, -⟩ := wo_row (ad := ad) (cs := cs) (O := O) (j := 0) (v := 0) hcA ht0 rfl
      obtain ⟨q1, hq1, hset⟩ := wo_rowC (ad := ad) (cs := cs) (O := O) (sp := sp.toNatClampNeg) (dp := dp.toNatClampNeg) (len := kk.toNatClampNeg) (c1 := c0) (n1 := n0) (p1 := p0) hcB ht0 ht1
      refine va_copyi (rest := t.map (cv ad)) (sp := sp) (dp := dp) (n := kk) hX hb2 (hml.trans hl.1.symm) hown (hts _ (wq_at hck.2)) (hts _ (wq_at w819)) (hts _ (wq_at w820)) (hts _ (wq_at w821)) E.1 hP hin.D hS q0 q1 _ _ hq0 hq1 (ty_at ht0) (ty_at ht0) ?_ g1 g2 g3 g4 g5 ?_ hR.1 ?_ hd (fun H1 locs1 hP1 _ hS1 => ?_)
      · by_cases hz0 : aty c0 p0 = 0
        · rw [if_pos hz0]; rfl
        · rw [if_neg hz0]; rfl
      · intro j hj
        rcases hbk with hz0 | hbk
        · rw [if_pos hz0]; rfl
        · by_cases hz0 : aty c0 p0 = 0
          · rw [if_pos hz0]; rfl
          · rw [if_neg hz0]
            have := List.all_eq_true.mp hbk j (List.mem_range.mpr hj)
            rw [Bool.or_eq_true, decide_eq_true_eq, decide_eq_true_eq] at this
            rcases this with q | q <;> rw [q] <;> rfl
      · show _ + (7 + 11) ≤ _
        omega
      · rw [hset] at hP1
        exact IH _ _ _ _ _ _ _ hg ((cpy8 (aty_lt (p := p1) (by omega))).trans h8) hlv (okS_rest hst) hP1 hS1 hl
    · cases hck
    · cases hck
theorem snd_virt {i : Nat} (F : Fr p s m args c own cb ml) (E : Ev D ad cs adV A s) (hsc : Scr ad A s O0) (hin : Inj_ lw ad A) (hcall : CallOK l f rm D lw ad cs adV) (hjdk : JdkOK l rm D lw ad cs adV)
    (hk8 : ∀ (x : Nat) (a : List V_) (O : Mem_) (r : Rs_), f x 0 (lay a) [] O = some r → r.2 8 = O 8) (hrm : rm.cells = 0 ∧ rm.slots = 0 ∧ rm.frames + 1 ≤ R.frames ∧ 39 + rm.locals ≤ R.locals) (hR : 1 ≤ R.frames ∧ 100 ≤ R.locals ∧ cells ≤ R.cells ∧ slots ≤ R.slots)
    (hd : decode cb pc = .ok (.invokevirtual i, len)) (h2 : chk2 own ml rt pc (.invokevirtual i, len, x, y, z, k, kl) = true)
    (IH : GoW p l e R s m args below meth c cells slots Q D ad cs A O0 lw ml res go)
    (h : inv (cl_ f) true x y z pc lv st O go = some res) (h8 : O 8 = O0 8) (hlv : okL lw lv) (hst : okS lw st) (hP : va_P D vwCl (wo lw ad cs O) H) (hS : va_S A s.heap H locs) (hl : lv_has ls ml (asc ad 0 lv)) :
    W p l e R s m args below meth c H locs cells slots Q (F0 m pc ls (st.map (cv ad))) := by
  obtain ⟨a, t, r, rfl, hal, hrcv, hla, hfew, hr, hg⟩ := inv_s h
  clear h
  rw [stk_rev]
  have h2 : (decide (len = 3) && decide (1 ≤ y % 16) && ckL own i x y z k (y % 16 - 1) && (bif x.blt 1000 then decide (y / 1024 < 7 ∧ (mcl x).1.cls = (rcl (y / 1024)).1 ∧ (mws_.getD x []).length = 4) else decide (1003 ≤ x))) = true := h2
  rw [Bool.and_eq_true, Bool.and_eq_true, Bool.and_eq_true] at h2
  obtain ⟨⟨⟨h3, h1⟩, hck⟩, h5⟩ := h2
  obtain rfl : len = 3 := of_decide_eq_true h3
  by_cases hx : x < 1000
  · have hb : x.blt 1000 = true := Nat.blt_eq.mpr hx
    rw [hb, cond_true] at h5
    obtain ⟨hy8, hcl, hlen⟩ := of_decide_eq_true h5
    obtain ⟨⟨hx2, hml2, hn, hz⟩, hlk⟩ := chkL_own hx hck
    have hr := cl_own hx hr
    have hM := hcall x a O r hx2 hr (okS_args hst) (by rw [hml2]; exact hla)
    have hw := mw_len4 (mkA_c218 hx2 (k := 3) hlen) hlen
    obtain ⟨-, hc1, hc2, hc3⟩ := mwk_s (mkA_c218 hx2 (k := 3) hlen)
    have hc0 := hw _ List.mem_cons_self
    have hci := hw _ (List.mem_cons_of_mem _ List.mem_cons_self)
    have hcs := hw _ (List.mem_cons_of_mem _ (List.mem_cons_of_mem _ List.mem_cons_self))
    have hce := hw _ (List.mem_cons_of_mem _ (List.mem_cons_of_mem _ (List.mem_cons_of_mem _ List.mem_cons_self)))
    obtain ⟨n, as, rfl⟩ := rcv_s hrcv
    have hcc := okc_cell (okS_args hst (vr (y / 1024) n 0) List.mem_cons_self) (by omega)
    obtain ⟨q0, hq⟩ := cell_at hcc
    have hrec := va_recv E.1 hP (rcl_mem hy8) (wo_get hq)
    have hpre : PreV s H (mcl x).1.cls (ad (y / 1024) n 0) (mPc D lw ad cs adV (vr (y / 1024) n 0 :: as) O) (as.map (cv ad)) := ⟨mPc_bl D lw ad cs adV _ O, by rw [hcl]; exact hrec, mPc_at (As := Value.ref (ad (y / 1024) n 0) :: as.map (cv ad)) rfl E hsc h8 hin hP hS⟩
    have hal2 : (as.map (cv ad)).length = y % 16 - 1 := by
      rw [List.length_map]
      rw [List.length_cons] at hal
      omega
    have hstk : ((vr (y / 1024) n 0 :: as).map (cv ad)).reverse ++ t.map (cv ad) = (as.map (cv ad)).reverse ++ Value.ref (ad (y / 1024) n 0) :: t.map (cv ad) := by
      rw [List.map_cons, List.reverse_cons, List.append_assoc]
      rfl
    rw [hstk]
    cases hneg : decide (k < 0) with
    | true =>
      rw [hneg, cond_true] at hlk
      have hq := List.mem_of_getElem? (of_decide_eq_true hlk)
      refine snd_back (va_runVN (C := (mcl x).1.cls) F hM ⟨va_cnB (y % 16 - 1) F.2.2.2.2 (ws_goodIn (mw_in hc0)) rfl hrm.1 hrm.2.1 (E.2.2.2.2.2 _ hq) (F.2.2.2.2 _ hci) ⟨hc1, hc2, hn⟩ ⟨hrm.2.2.1, by omega⟩, F.2.2.2.2 _ hcs, F.2.2.2.2 _ hce⟩ hpre rfl hal2 hl.1 rfl (few_w hfew) hd ⟨hR.2.2.1, hR.2.2.2⟩) hin IH hz hg ((hk8 _ _ _ _ hr).trans h8) hlv (okS_rest hst) hS hl
    | false =>
      rw [hneg, cond_false] at hlk
      refine snd_back (va_runV F hM (cwV (y % 16 - 1) F.2.2.2.2 (ws_goodIn (fun w hw0 => ?_)) rfl hrm.1 hrm.2.1 ⟨rfl, hc1, hc2, hn⟩ ⟨hrm.2.2.1, by omega⟩) hpre rfl hal2 hl.1 rfl (few_w hfew) hd ⟨hR.2.2.1, hR.2.2.2⟩) hin IH hz hg ((hk8 _ _ _ _ hr).trans h8) hlv (okS_rest hst) hS hl
      rcases List.mem_append.mp hw0 with hw0 | hw0
      · simp only [List.mem_cons, List.not_mem_nil, or_false] at hw0
        rcases hw0 with rfl | rfl | rfl | rfl
        · exact wq_at hlk
        · exact hcs
        · exact hce
        · exact hci
      · exact mw_in hc0 w hw0
  · have hb : x.blt 1000 = false := by
      cases hq : x.blt 1000 with
      | false => rfl
      | true => exact absurd (Nat.blt_eq.mp hq) hx
    rw [hb, cond_false] at h5
    have h5 := of_decide_eq_true h5
    have hr : (bif x.blt 1000 then f x 0 (lay a) [] O else intr x a O) = some r := hr
    rw [hb, cond_false] at hr
    obtain ⟨-, -, -, w290, w291, w292, w293, w302, w303, w304⟩ := wds_x
    unfold ckL at hck
    rw [hb, cond_false] at hck
    have hx3 : x = 1003 ∨ x = 1004 := by
      split at hck
      · omega
      · exact Or.inl rfl
      · exact Or.inr rfl
      · cases hck
    have hiok : ∀ (n : Nat) (as : List V_), a = vr 9 n 0 :: as → n < 12 := fun n as hq => by
      rcases okS_args hst (vr 9 n 0) (by rw [hq]; exact List.mem_cons_self) with h9 | ⟨-, h9, -⟩ | ⟨h9, -⟩
      · exact absurd (cell_lt h9) (by decide)
      · exact h9
      · cases h9
    obtain rfl | rfl := hx3
    · have hck : (decide (y % 16 = 1 ∧ z = 1 ∧ y / 1024 = 9) && wq k.toNatClampNeg (.methodLink own i yJ0_length_8abf5)) = true := hck
      rw [Bool.and_eq_true] at hck
      obtain ⟨hy, rfl, -⟩ := of_decide_eq_true hck.1
      obtain ⟨n, rfl, rfl⟩ := intr_len hr
      have hn := hiok n [] rfl
      have hpre : PreV s H RJ0 (ad 9 n 0) (mPj D lw ad cs adV [vr 9 n 0] O) [] := ⟨mPj_bl D lw ad cs adV _ O, vk_recv (i := n) (adK := fun i => ad 9 i 0) E.2.1 hn hS, mPj_at (As := [Value.ref (ad 9 n 0)]) rfl E hin hP hS⟩
      refine snd_back (z := 1) (ret := some .int) (va_runV F (hjdk.1 n O hn) (cwV 0 F.2.2.2.2 (ws_goodIn (fun w hw0 => ?_)) rfl hrm.1 hrm.2.1 (by decide +kernel) ⟨hrm.2.2.1, by omega⟩) hpre rfl rfl hl.1 rfl (few_w hfew) hd ⟨hR.2.2.1, hR.2.2.2⟩) hin IH ⟨fun q => (by cases q), fun q => (by cases q)⟩ hg h8 hlv (okS_rest hst) hS hl
      rcases List.mem_append.mp hw0 with hw0 | hw0
      · simp only [List.mem_cons, List.not_mem_nil, or_false] at hw0
        rcases hw0 with rfl | rfl | rfl | rfl
        · exact wq_at hck.2
        · exact wq_at w290
        · exact wq_at w291
        · exact wq_at w292
      · rcases List.mem_cons.mp hw0 with rfl | hw0
        · exact wq_at w293
        · exact hw0
    · have hck : (decide (y % 16 = 2 ∧ z = 1 ∧ y / 1024 = 9) && wq k.toNatClampNeg (.methodLink own i yJ0_charAt_5068e)) = true := hck
      rw [Bool.and_eq_true] at hck
      obtain ⟨hy, rfl, -⟩ := of_decide_eq_true hck.1
      obtain ⟨n, k9, rfl, hk9, rfl⟩ := intr_at hr
      have hn := hiok n _ rfl
      have hpre : PreV s H RJ0 (ad 9 n 0) (mPj D lw ad cs adV [vr 9 n 0, vi k9] O) [.int k9] := ⟨mPj_bl D lw ad cs adV _ O, vk_recv (i := n) (adK := fun i => ad 9 i 0) E.2.1 hn hS, mPj_at (As := [Value.ref (ad 9 n 0), .int k9]) rfl E hin hP hS⟩
      refine snd_back (z := 1) (ret := some .char) (va_runV F (hjdk.2 n k9 O hn hk9) (cwV 1 F.2.2.2.2 (ws_goodIn (fun w hw0 => ?_)) rfl hrm.1 hrm.2.1 (by decide +kernel) ⟨hrm.2.2.1, by omega⟩) hpre rfl rfl hl.1 rfl (few_w hfew) hd ⟨hR.2.2.1, hR.2.2.2⟩) hin IH ⟨fun q => (by cases q), fun q => (by cases q)⟩ hg h8 hlv (okS_rest hst) hS hl
      rcases List.mem_append.mp hw0 with hw0 | hw0
      · simp only [List.mem_cons, List.not_mem_nil, or_false] at hw0
        rcases hw0 with rfl | rfl | rfl | rfl
        · exact wq_at hck.2
        · exact wq_at w302
        · exact wq_at w303
        · exact wq_at w292
      · rcases List.mem_cons.mp hw0 with rfl | hw0
        · exact wq_at w304
        · exact hw0
end SNDI
end
section
section SND2
variable {p : Program} {l : Launch} {e : Env} {R : Room} {s : State} {m : MethodId} {args : Array Value} {below : List Frame} {meth : Method} {c : Code} {cells slots : Nat} {Q : State → Prop}
variable {D : va_G} {ad : AD_} {cs : Nat → ClassId} {adV : Nat → Nat} {A : Nat → Prop} {O0 : Mem_} {lw : Nat} {ml : Nat} {res : Rs_} {go : Go_} {own : String} {cb : ByteArray} {rt : Option FieldType}
variable {f : Nat → Nat → Lv_ → List V_ → Mem_ → Option Rs_} {rm : Room}
variable {pc len x y z : Nat} {k : Int32} {kl : Int64} {lv : Lv_} {st : List V_} {O : Mem_} {H : Heap} {locs : List Loc} {ls : Array Slot}
theorem told_two_ : ∀ lw, lw < 10 → ∀ x ∈ cellsL lw, x.1 = 4 → x.2.1 = 0 ∨ x.2.1 = 1 := by decide +kernel
theorem told_two {lw n : Nat} (h : (4, n, 0) ∈ cellsL lw) : n = 0 ∨ n = 1 := by
  rw [cellsL_min] at h
  exact told_two_ _ (by omega) _ h rfl
theorem pRIL_s {st : List V_} {g : Nat → Nat → Nat → Int32 → Int64 → List V_ → Option Rs_} {r : Rs_} (h : pRIL st g = some r) : ∃ c n q i v s, st = vl v :: vi i :: vr c n q :: s ∧ g c n q i v s = some r := by
  unfold pRIL at h; split at h
  · exact ⟨_, _, _, _, _, _, rfl, h⟩
  · cases h
theorem swg_look {a : Int32} {g : Nat → Option Rs_} {pc d : Nat} {dd : Int} (hd : (pc : Int) + dd = (d : Int)) : ∀ (ps : List (Int × Int)) (t : List (Int32 × Nat)), ps.map (fun q => (q.1, (pc : Int) + q.2)) = t.map (fun q => (q.1.toInt, (q.2 : Int))) → ∃ q : Nat, (pc : Int) + Op.lookupswitch.offset ps dd a.toInt = (q : Int) ∧ swg a t d g = g q
  | [], [], _ => ⟨d, hd, rfl⟩
  | [], _ :: _, h => by cases h
  | _ :: _, [], h => by cases h
  | (k, o) :: ps, (k', q) :: t, h => by
    rw [List.map_cons, List.map_cons] at h
    obtain ⟨h1, h2⟩ := List.cons.inj h
    have h3 : k = k'.toInt := (Prod.mk.inj h1).1
    have h4 : (pc : Int) + o = (q : Int) := (Prod.mk.inj h1).2
    rw [Op.lookupswitch.offset_cons]
    by_cases hk : a = k'
    · subst hk
      refine ⟨q, ?_, by simp [swg]⟩
      rw [if_pos (by rw [h3])]
      exact h4
    · obtain ⟨q', e1, e2⟩ := swg_look (a := a) (g := g) hd ps t h2
      refine ⟨q', ?_, by simp [swg, hk, e2]⟩
      rw [if_neg]
      · exact e1
      · intro z
        exact hk (Int32.toInt_inj.mp (by rw [← h3]; exact z.symm))
set_option maxHeartbeats 8000000 in
theorem snd_stp {en : E_} (F : Fr p s m args c own cb ml) (E : Ev D ad cs adV A s) (hin : Inj_ lw ad A) (hsc : Scr ad A s O0) (hcall : CallOK l f rm D lw ad cs adV) (hjdk : JdkOK l rm D lw ad cs adV)
    (hk8 : ∀ (x : Nat) (a : List V_) (O : Mem_) (r : Rs_), f x 0 (lay a) [] O = some r → r.2 8 = O 8) (hrm : rm.cells = 0 ∧ rm.slots = 0 ∧ rm.frames + 1 ≤ R.frames ∧ 39 + rm.locals ≤ R.locals) (hR : 1 ≤ R.frames ∧ 100 ≤ R.locals ∧ cells ≤ R.cells ∧ slots ≤ R.slots)
    (hdec : chkE own cb ml rt (pc, en) = true)
    (hfi : ∀ (pc : Nat) (ls : Array Slot) (H : Heap) (locs : List Loc) (a : Int32) (O' : Mem_), decode cb pc = .ok (.ireturn, 1) → (rt = some .int ∨ (rt = some .boolean ∧ (a = 0 ∨ a = 1))) → res = (a, O') → va_P D vwCl (wo lw ad cs O') H → va_S A s.heap H locs → W p l e R s m args below meth c H locs cells slots Q (F0 m pc ls [.int a]))
    (hfv : ∀ (pc : Nat) (ls : Array Slot) (H : Heap) (locs : List Loc) (O' : Mem_), decode cb pc = .ok (.return_, 1) → rt = none → res = (0, O') → va_P D vwCl (wo lw ad cs O') H → va_S A s.heap H locs → W p l e R s m args below meth c H locs cells slots Q (F0 m pc ls []))
    (hfn : ∀ (ls : Array Slot) (H : Heap) (locs : List Loc) (O' : Mem_), decode cb 305 = .ok (.newarray .int, 2) → ml = 28 → res = (nI 7, O') → va_P D vwCl (wo lw ad cs O') H → va_S A s.heap H locs → lv_has ls ml ((hLv.zipIdx 0).map fun q => (q.2, Value.ref (ad q.1.1 0 q.1.2))) → W p l e R s m args below meth c H locs cells slots Q (F0 m 305 ls [.int (nI 60)]))
    (IH : GoW p l e R s m args below meth c cells slots Q D ad cs A O0 lw ml res go)
    (h : stp swT_ (cl_ f) en pc lv st O go = some res) (h8 : O 8 = O0 8) (hlv : okL lw lv) (hst : okS lw st) (hP : va_P D vwCl (wo lw ad cs O) H) (hS : va_S A s.heap H locs) (hl : lv_has ls ml (asc ad 0 lv)) :
    W p l e R s m args below meth c H locs cells slots Q (F0 m pc ls (st.map (cv ad))) := by
  obtain ⟨ins, len, x, y, z, k, kl⟩ := en
  obtain ⟨hx, hb, hml, hown, hts⟩ := id F
  have hd : decode cb pc = .ok (ins, len) := by
    have h1 := (Bool.and_eq_true _ _).mp hdec
    have h1 := h1.1
    revert h1
    dsimp only
    split
    · rename_i i l9 hq
      intro h1
      obtain ⟨rfl, rfl⟩ := of_decide_eq_true h1
      exact hq
    · intro h1; cases h1
  have h2 : chk2 own ml rt pc (ins, len, x, y, z, k, kl) = true := ((Bool.and_eq_true _ _).mp hdec).2
  clear hdec
  cases ins
  case iadd =>
    obtain rfl : len = 1 := of_decide_eq_true h2
    obtain ⟨a, b, t, rfl, hq9⟩ := pII_s h
    clear h
    have h := hq9
    exact lv_iadd (x := a) (y := b) (rest := t.map (cv ad)) hx hb hd (IH _ _ _ _ _ _ _ h h8 hlv (okS_cons trivial (okS_tl (okS_tl hst))) hP hS hl)
  case isub =>
    obtain rfl : len = 1 := of_decide_eq_true h2
    obtain ⟨a, b, t, rfl, hq9⟩ := pII_s h
    clear h
    have h := hq9
    exact lv_isub (x := a) (y := b) (rest := t.map (cv ad)) hx hb hd (IH _ _ _ _ _ _ _ h h8 hlv (okS_cons trivial (okS_tl (okS_tl hst))) hP hS hl)
  case imul =>
    obtain rfl : len = 1 := of_decide_eq_true h2
    obtain ⟨a, b, t, rfl, hq9⟩ := pII_s h
    clear h
    have h := hq9
    exact lv_imul (x := a) (y := b) (rest := t.map (cv ad)) hx hb hd (IH _ _ _ _ _ _ _ h h8 hlv (okS_cons trivial (okS_tl (okS_tl hst))) hP hS hl)
  case iand =>
    obtain rfl : len = 1 := of_decide_eq_true h2
    obtain ⟨a, b, t, rfl, hq9⟩ := pII_s h
    clear h
    have h := hq9
    exact lv_iand (x := a) (y := b) (rest := t.map (cv ad)) hx hb hd (IH _ _ _ _ _ _ _ h h8 hlv (okS_cons trivial (okS_tl (okS_tl hst))) hP hS hl)
  case ior =>
    obtain rfl : len = 1 := of_decide_eq_true h2
    obtain ⟨a, b, t, rfl, hq9⟩ := pII_s h
    clear h
    have h := hq9
    exact lv_ior (x := a) (y := b) (rest := t.map (cv ad)) hx hb hd (IH _ _ _ _ _ _ _ h h8 hlv (okS_cons trivial (okS_tl (okS_tl hst))) hP hS hl)
  case ixor =>
    obtain rfl : len = 1 := of_decide_eq_true h2
    obtain ⟨a, b, t, rfl, hq9⟩ := pII_s h
    clear h
    have h := hq9
    exact lv_ixor (x := a) (y := b) (rest := t.map (cv ad)) hx hb hd (IH _ _ _ _ _ _ _ h h8 hlv (okS_cons trivial (okS_tl (okS_tl hst))) hP hS hl)
  case ishl =>
    obtain rfl : len = 1 := of_decide_eq_true h2
    obtain ⟨a, b, t, rfl, hq9⟩ := pII_s h
    clear h
    have h := hq9
    exact lv_ishl (x := a) (y := b) (rest := t.map (cv ad)) hx hb hd (IH _ _ _ _ _ _ _ h h8 hlv (okS_cons trivial (okS_tl (okS_tl hst))) hP hS hl)
  case ishr =>
    obtain rfl : len = 1 := of_decide_eq_true h2
    obtain ⟨a, b, t, rfl, hq9⟩ := pII_s h
    clear h
    have h := hq9
    exact lv_ishr (x := a) (y := b) (rest := t.map (cv ad)) hx hb hd (IH _ _ _ _ _ _ _ h h8 hlv (okS_cons trivial (okS_tl (okS_tl hst))) hP hS hl)
  case iushr =>
    obtain rfl : len = 1 := of_decide_eq_true h2
    obtain ⟨a, b, t, rfl, hq9⟩ := pII_s h
    clear h
    have h := hq9
    exact lv_iushr (x := a) (y := b) (rest := t.map (cv ad)) hx hb hd rfl (IH _ _ _ _ _ _ _ h h8 hlv (okS_cons trivial (okS_tl (okS_tl hst))) hP hS hl)
  case ineg =>
    obtain rfl : len = 1 := of_decide_eq_true h2
    obtain ⟨a, t, rfl, hq9⟩ := pI_s h
    clear h
    have h := hq9
    exact lv_ineg (x := a) (rest := t.map (cv ad)) hx hb hd (IH _ _ _ _ _ _ _ h h8 hlv (okS_cons trivial (okS_tl hst)) hP hS hl)
  case lrem =>
    obtain rfl : len = 1 := of_decide_eq_true h2
    obtain ⟨a, b, t, rfl, hq9⟩ := pLL_s h
    clear h
    have h := hq9
    by_cases hz : b = 0
    · rw [if_pos hz] at h; cases h
    · rw [if_neg hz] at h
      exact lv_lrem (x := a) (y := b) (rest := t.map (cv ad)) hx hb hd hz (IH _ _ _ _ _ _ _ h h8 hlv (okS_cons trivial (okS_tl (okS_tl hst))) hP hS hl)
  case ladd =>
    obtain rfl : len = 1 := of_decide_eq_true h2
    obtain ⟨a, b, t, rfl, hq9⟩ := pLL_s h
    clear h
    have h := hq9
    exact lv_ladd (x := a) (y := b) (rest := t.map (cv ad)) hx hb hd (IH _ _ _ _ _ _ _ h h8 hlv (okS_cons trivial (okS_tl (okS_tl hst))) hP hS hl)
  case land =>
    obtain rfl : len = 1 := of_decide_eq_true h2
    obtain ⟨a, b, t, rfl, hq9⟩ := pLL_s h
    clear h
    have h := hq9
    exact lv_land (x := a) (y := b) (rest := t.map (cv ad)) hx hb hd (IH _ _ _ _ _ _ _ h h8 hlv (okS_cons trivial (okS_tl (okS_tl hst))) hP hS hl)
  case lor =>
    obtain rfl : len = 1 := of_decide_eq_true h2
    obtain ⟨a, b, t, rfl, hq9⟩ := pLL_s h
    clear h
    have h := hq9
    exact lv_lor (x := a) (y := b) (rest := t.map (cv ad)) hx hb hd (IH _ _ _ _ _ _ _ h h8 hlv (okS_cons trivial (okS_tl (okS_tl hst))) hP hS hl)
  case lshl =>
    obtain rfl : len = 1 := of_decide_eq_true h2
    obtain ⟨a, b, t, rfl, hq9⟩ := pLI_s h
    clear h
    have h := hq9
    exact lv_lshl (x := a) (y := b) (rest := t.map (cv ad)) hx hb hd rfl (IH _ _ _ _ _ _ _ h h8 hlv (okS_cons trivial (okS_tl (okS_tl hst))) hP hS hl)
  case lshr =>
    obtain rfl : len = 1 := of_decide_eq_true h2
    obtain ⟨a, b, t, rfl, hq9⟩ := pLI_s h
    clear h
    have h := hq9
    exact lv_lshr (x := a) (y := b) (rest := t.map (cv ad)) hx hb hd rfl (IH _ _ _ _ _ _ _ h h8 hlv (okS_cons trivial (okS_tl (okS_tl hst))) hP hS hl)
  case lushr =>
    obtain rfl : len = 1 := of_decide_eq_true h2
    obtain ⟨a, b, t, rfl, hq9⟩ := pLI_s h
    clear h
    have h := hq9
    exact lv_lushr (x := a) (y := b) (rest := t.map (cv ad)) hx hb hd rfl (IH _ _ _ _ _ _ _ h h8 hlv (okS_cons trivial (okS_tl (okS_tl hst))) hP hS hl)
  case lcmp =>
    obtain rfl : len = 1 := of_decide_eq_true h2
    obtain ⟨a, b, t, rfl, hq9⟩ := pLL_s h
    clear h
    have h := hq9
    exact W.lcmp (x := a) (y := b) (rest := t.map (cv ad)) hx hb hd (IH _ _ _ _ _ _ _ h h8 hlv (okS_cons trivial (okS_tl (okS_tl hst))) hP hS hl)
  case i2l =>
    obtain rfl : len = 1 := of_decide_eq_true h2
    obtain ⟨a, t, rfl, hq9⟩ := pI_s h
    clear h
    have h := hq9
    exact lv_i2l (x := a) (rest := t.map (cv ad)) hx hb hd rfl (IH _ _ _ _ _ _ _ h h8 hlv (okS_cons trivial (okS_tl hst)) hP hS hl)
  case l2i =>
    obtain rfl : len = 1 := of_decide_eq_true h2
    obtain ⟨a, t, rfl, hq9⟩ := pL_s h
    clear h
    have h := hq9
    exact lv_l2i (x := a) (rest := t.map (cv ad)) hx hb hd rfl (IH _ _ _ _ _ _ _ h h8 hlv (okS_cons trivial (okS_tl hst)) hP hS hl)
  case i2b =>
    obtain rfl : len = 1 := of_decide_eq_true h2
    obtain ⟨a, t, rfl, hq9⟩ := pI_s h
    clear h
    have h := hq9
    exact lv_i2b (x := a) (rest := t.map (cv ad)) hx hb hd rfl (IH _ _ _ _ _ _ _ h h8 hlv (okS_cons trivial (okS_tl hst)) hP hS hl)
  case i2s =>
    obtain rfl : len = 1 := of_decide_eq_true h2
    obtain ⟨a, t, rfl, hq9⟩ := pI_s h
    clear h
    have h := hq9
    exact lv_i2s (x := a) (rest := t.map (cv ad)) hx hb hd rfl (IH _ _ _ _ _ _ _ h h8 hlv (okS_cons trivial (okS_tl hst)) hP hS hl)
  case idiv =>
    obtain rfl : len = 1 := of_decide_eq_true h2
    obtain ⟨a, b, t, rfl, hq9⟩ := pII_s h
    clear h
    have h := hq9
    by_cases hz : b = 0
    · rw [if_pos hz] at h; cases h
    · rw [if_neg hz] at h
      exact lv_idiv (x := a) (y := b) (rest := t.map (cv ad)) hx hb hd hz (IH _ _ _ _ _ _ _ h h8 hlv (okS_cons trivial (okS_tl (okS_tl hst))) hP hS hl)
  case irem =>
    obtain rfl : len = 1 := of_decide_eq_true h2
    obtain ⟨a, b, t, rfl, hq9⟩ := pII_s h
    clear h
    have h := hq9
    by_cases hz : b = 0
    · rw [if_pos hz] at h; cases h
    · rw [if_neg hz] at h
      exact lv_irem (x := a) (y := b) (rest := t.map (cv ad)) hx hb hd hz (IH _ _ _ _ _ _ _ h h8 hlv (okS_cons trivial (okS_tl (okS_tl hst))) hP hS hl)
  case iconst n =>
    simp only [chk2, Bool.and_eq_true, decide_eq_true_eq] at h2
    obtain ⟨rfl, h2⟩ := h2
    exact lv_iconst hx hb hd h2 (IH _ _ _ _ _ _ _ h h8 hlv (okS_cons trivial hst) hP hS hl)
  case bipush n =>
    simp only [chk2, Bool.and_eq_true, decide_eq_true_eq] at h2
    obtain ⟨rfl, h2⟩ := h2
    exact lv_bipush hx hb hd h2 (IH _ _ _ _ _ _ _ h h8 hlv (okS_cons trivial hst) hP hS hl)
  case sipush n =>
    simp only [chk2, Bool.and_eq_true, decide_eq_true_eq] at h2
    obtain ⟨rfl, h2⟩ := h2
    exact lv_sipush hx hb hd h2 (IH _ _ _ _ _ _ _ h h8 hlv (okS_cons trivial hst) hP hS hl)
  case lconst n =>
    simp only [chk2, Bool.and_eq_true, decide_eq_true_eq] at h2
    obtain ⟨rfl, h2⟩ := h2
    exact lv_lconst hx hb hd h2 (IH _ _ _ _ _ _ _ h h8 hlv (okS_cons trivial hst) hP hS hl)
  case ldc i =>
    simp only [chk2, Bool.and_eq_true, decide_eq_true_eq] at h2
    obtain ⟨rfl, h2⟩ := h2
    have hgo : (bif z.beq 0 then go (pc + 2) lv (vi k :: st) O else go (pc + 2) lv (vr 9 x 0 :: st) O) = some res := h
    clear h
    cases hz : z.beq 0 with
    | true =>
      rw [hz] at h2
      rw [hz, cond_true] at hgo
      exact lv_ldc hx hb hown (hts _ (wq_at h2)) hd (IH _ _ _ _ _ _ _ hgo h8 hlv (okS_cons trivial hst) hP hS hl)
    | false =>
      rw [hz] at h2
      rw [hz, cond_false] at hgo
      obtain ⟨rfl, h12, rfl⟩ := of_decide_eq_true h2
      exact va_ldcS hx hb hown (E.2.2.2.2.1 x h12) hd (IH _ _ _ _ _ _ _ hgo h8 hlv (okS_cons (v := vr 9 x 0) (Or.inr (Or.inl ⟨rfl, h12, rfl⟩)) hst) hP hS hl)
  case ldc_w i =>
    simp only [chk2, Bool.and_eq_true, decide_eq_true_eq] at h2
    obtain ⟨rfl, h2⟩ := h2
    exact lv_ldcw hx hb hown (hts _ (wq_at h2)) hd (IH _ _ _ _ _ _ _ h h8 hlv (okS_cons trivial hst) hP hS hl)
  case ldc2_w i =>
    simp only [chk2, Bool.and_eq_true, decide_eq_true_eq] at h2
    obtain ⟨rfl, h2⟩ := h2
    exact lv_ldc2 hx hb hown (hts _ (wq_at h2)) hd (IH _ _ _ _ _ _ _ h h8 hlv (okS_cons trivial hst) hP hS hl)
  case iload_n n =>
    simp only [chk2, Bool.and_eq_true, decide_eq_true_eq] at h2
    obtain ⟨rfl, h2⟩ := h2
    obtain ⟨a, ha, h⟩ := gI_s h
    exact lv_iload_n hx hb hd h2 (lc_at hl ha) (IH _ _ _ _ _ _ _ h h8 hlv (okS_cons trivial hst) hP hS hl)
  case lload_n n =>
    simp only [chk2, Bool.and_eq_true, decide_eq_true_eq] at h2
    obtain ⟨rfl, h2⟩ := h2
    obtain ⟨a, ha, h⟩ := gL_s h
    exact lv_lload_n hx hb hd h2 (lc_at hl ha) (IH _ _ _ _ _ _ _ h h8 hlv (okS_cons trivial hst) hP hS hl)
  case aload_n n =>
    simp only [chk2, Bool.and_eq_true, decide_eq_true_eq] at h2
    obtain ⟨rfl, h2⟩ := h2
    obtain ⟨c9, n9, q9, ha, h⟩ := gR_s h
    exact lv_aload_n hx hb hd h2 (lc_at hl ha) (IH _ _ _ _ _ _ _ h h8 hlv (okS_cons (ok_ln lv _ hlv ha) hst) hP hS hl)
  case iload i =>
    simp only [chk2, Bool.and_eq_true, decide_eq_true_eq] at h2
    obtain ⟨rfl, rfl⟩ := h2
    obtain ⟨a, ha, h⟩ := gI_s h
    exact lv_iload hx hb hd (lc_at hl ha) (IH _ _ _ _ _ _ _ h h8 hlv (okS_cons trivial hst) hP hS hl)
  case lload i =>
    simp only [chk2, Bool.and_eq_true, decide_eq_true_eq] at h2
    obtain ⟨rfl, rfl⟩ := h2
    obtain ⟨a, ha, h⟩ := gL_s h
    exact lv_lload hx hb hd (lc_at hl ha) (IH _ _ _ _ _ _ _ h h8 hlv (okS_cons trivial hst) hP hS hl)
  case aload i =>
    simp only [chk2, Bool.and_eq_true, decide_eq_true_eq] at h2
    obtain ⟨rfl, rfl⟩ := h2
    obtain ⟨c9, n9, q9, ha, h⟩ := gR_s h
    exact lv_aload hx hb hd (lc_at hl ha) (IH _ _ _ _ _ _ _ h h8 hlv (okS_cons (ok_ln lv _ hlv ha) hst) hP hS hl)
  case istore_n n =>
    simp only [chk2, Bool.and_eq_true, decide_eq_true_eq] at h2
    obtain ⟨rfl, h2⟩ := h2
    obtain ⟨a, t, rfl, hq9⟩ := pI_s h
    clear h
    have h := hq9
    exact lv_istore_n (rest := t.map (cv ad)) hx hb hd h2.1 hl h2.2 rfl (fun ls' hq => IH _ _ _ _ _ _ _ h h8 (ok_lst (okS_hd hst) _ _ hlv) (okS_tl hst) hP hS (lc_set1 rfl hq))
  case astore_n n =>
    simp only [chk2, Bool.and_eq_true, decide_eq_true_eq] at h2
    obtain ⟨rfl, h2⟩ := h2
    obtain ⟨c9, n9, q9, t, rfl, hq9⟩ := pR_s h
    clear h
    have h := hq9
    exact lv_astore_n (rest := t.map (cv ad)) hx hb hd h2.1 hl h2.2 rfl (fun ls' hq => IH _ _ _ _ _ _ _ h h8 (ok_lst (okS_hd hst) _ _ hlv) (okS_tl hst) hP hS (lc_set1 rfl hq))
  case lstore_n n =>
    simp only [chk2, Bool.and_eq_true, decide_eq_true_eq] at h2
    obtain ⟨rfl, h2⟩ := h2
    obtain ⟨a, t, rfl, hq9⟩ := pL_s h
    clear h
    have h := hq9
    exact lv_lstore_n (rest := t.map (cv ad)) hx hb hd h2.1 hl h2.2 rfl (fun ls' hq => IH _ _ _ _ _ _ _ h h8 (ok_lst (okS_hd hst) _ _ hlv) (okS_tl hst) hP hS (lc_set2 hq))
  case istore i =>
    simp only [chk2, Bool.and_eq_true, decide_eq_true_eq] at h2
    obtain ⟨rfl, rfl, h2⟩ := h2
    obtain ⟨a, t, rfl, hq9⟩ := pI_s h
    clear h
    have h := hq9
    exact lv_istore (rest := t.map (cv ad)) hx hb hd hl h2 rfl (fun ls' hq => IH _ _ _ _ _ _ _ h h8 (ok_lst (okS_hd hst) _ _ hlv) (okS_tl hst) hP hS (lc_set1 rfl hq))
  case astore i =>
    simp only [chk2, Bool.and_eq_true, decide_eq_true_eq] at h2
    obtain ⟨rfl, rfl, h2⟩ := h2
    obtain ⟨c9, n9, q9, t, rfl, hq9⟩ := pR_s h
    clear h
    have h := hq9
    exact lv_astore (rest := t.map (cv ad)) hx hb hd hl h2 rfl (fun ls' hq => IH _ _ _ _ _ _ _ h h8 (ok_lst (okS_hd hst) _ _ hlv) (okS_tl hst) hP hS (lc_set1 rfl hq))
  case lstore i =>
    simp only [chk2, Bool.and_eq_true, decide_eq_true_eq] at h2
    obtain ⟨rfl, rfl, h2⟩ := h2
    obtain ⟨a, t, rfl, hq9⟩ := pL_s h
    clear h
    have h := hq9
    exact lv_lstore (rest := t.map (cv ad)) hx hb hd hl h2 rfl (fun ls' hq => IH _ _ _ _ _ _ _ h h8 (ok_lst (okS_hd hst) _ _ hlv) (okS_tl hst) hP hS (lc_set2 hq))
  case iinc i n =>
    simp only [chk2, Bool.and_eq_true, decide_eq_true_eq] at h2
    obtain ⟨rfl, rfl, h3, h4⟩ := h2
    obtain ⟨a, ha, h⟩ := gI_s h
    have hm := asc_ln (ad := ad) lv 0 _ ha
    rw [Nat.zero_add] at hm
    obtain ⟨k9, hk9⟩ := List.getElem?_of_mem hm
    exact lv_iinc hx hb hd hl hk9 (by rw [h4]) h3 rfl (fun ls' hq => IH _ _ _ _ _ _ _ h h8 (ok_lst (v := vi (a + k)) trivial _ _ hlv) hst hP hS (lc_set1 (v := vi (a + k)) rfl hq))
  case dup =>
    obtain rfl : len = 1 := of_decide_eq_true h2
    cases st with
    | nil => cases h
    | cons v t =>
      rcases v with a | a | ⟨c9, n9, q9⟩
      · exact lv_dup hx hb hd rfl (IH _ _ (vi a :: vi a :: t) _ _ _ _ h h8 hlv (okS_cons trivial hst) hP hS hl)
      · cases h
      · exact lv_dup hx hb hd rfl (IH _ _ (vr c9 n9 q9 :: vr c9 n9 q9 :: t) _ _ _ _ h h8 hlv (okS_cons (okS_hd hst) hst) hP hS hl)
  case dup2 =>
    obtain rfl : len = 1 := of_decide_eq_true h2
    obtain ⟨c9, n9, q9, i9, t, rfl, hq9⟩ := pRI_s h
    clear h
    have h := hq9
    exact lv_dup2_11 (rest := t.map (cv ad)) hx hb hd rfl rfl (IH _ _ _ _ _ _ _ h h8 hlv (okS_cons trivial (okS_cons (okS_hd (okS_tl hst)) hst)) hP hS hl)
  case pop =>
    obtain rfl : len = 1 := of_decide_eq_true h2
    obtain ⟨a, t, rfl, hq9⟩ := pI_s h
    clear h
    have h := hq9
    exact lv_pop (va := .int a) (rest := t.map (cv ad)) hx hb hd rfl (IH _ _ _ _ _ _ _ h h8 hlv (okS_tl hst) hP hS hl)
  case ifCond cc o =>
    simp only [chk2, Bool.and_eq_true, decide_eq_true_eq] at h2
    obtain ⟨rfl, h2⟩ := h2
    obtain ⟨a, t, rfl, hq9⟩ := pI_s h
    clear h
    have h := hq9
    have kk : ∀ q, go q lv t O = some res → W p l e R s m args below meth c H locs cells slots Q (F0 m q ls (t.map (cv ad))) := fun q hq => IH _ _ _ _ _ _ _ hq h8 hlv (okS_tl hst) hP hS hl
    unfold jmp at h
    cases cc with
    | eq =>
      have h : (if a = 0 then go x lv t O else go (pc + 3) lv t O) = some res := h
      by_cases hc : a = 0
      · rw [if_pos hc] at h
        exact lv_if_eq (x := a) (rest := t.map (cv ad)) hx hb hd h2 (fun q => kk _ h) (fun q => absurd hc q)
      · rw [if_neg hc] at h
        exact lv_if_eq (x := a) (rest := t.map (cv ad)) hx hb hd h2 (fun q => absurd q hc) (fun q => kk _ h)
    | ne =>
      have h : (if a = 0 then go (pc + 3) lv t O else go x lv t O) = some res := h
      by_cases hc : a = 0
      · rw [if_pos hc] at h
        exact lv_if_ne (x := a) (rest := t.map (cv ad)) hx hb hd h2 (fun q => absurd q (by first | exact not_not_intro hc | exact Int32.not_le.mpr hc)) (fun q => kk _ h)
      · rw [if_neg hc] at h
        exact lv_if_ne (x := a) (rest := t.map (cv ad)) hx hb hd h2 (fun q => kk _ h) (fun q => absurd q hc)
    | lt =>
      have h : (if a < 0 then go x lv t O else go (pc + 3) lv t O) = some res := h
      by_cases hc : a < 0
      · rw [if_pos hc] at h
        exact lv_if_lt (x := a) (rest := t.map (cv ad)) hx hb hd h2 (fun q => kk _ h) (fun q => absurd hc q)
      · rw [if_neg hc] at h
        exact lv_if_lt (x := a) (rest := t.map (cv ad)) hx hb hd h2 (fun q => absurd q hc) (fun q => kk _ h)
    | ge =>
      have h : (if a < 0 then go (pc + 3) lv t O else go x lv t O) = some res := h
      by_cases hc : a < 0
      · rw [if_pos hc] at h
        exact lv_if_ge (x := a) (rest := t.map (cv ad)) hx hb hd h2 (fun q => absurd q (by first | exact not_not_intro hc | exact Int32.not_le.mpr hc)) (fun q => kk _ h)
      · rw [if_neg hc] at h
        exact lv_if_ge (x := a) (rest := t.map (cv ad)) hx hb hd h2 (fun q => kk _ h) (fun q => absurd (by first | exact hc | exact Int32.not_lt.mp hc) q)
    | gt =>
      have h : (if 0 < a then go x lv t O else go (pc + 3) lv t O) = some res := h
      by_cases hc : 0 < a
      · rw [if_pos hc] at h
        exact lv_if_gt (x := a) (rest := t.map (cv ad)) hx hb hd h2 (fun q => kk _ h) (fun q => absurd hc q)
      · rw [if_neg hc] at h
        exact lv_if_gt (x := a) (rest := t.map (cv ad)) hx hb hd h2 (fun q => absurd q hc) (fun q => kk _ h)
    | le =>
      have h : (if 0 < a then go (pc + 3) lv t O else go x lv t O) = some res := h
      by_cases hc : 0 < a
      · rw [if_pos hc] at h
        exact lv_if_le (x := a) (rest := t.map (cv ad)) hx hb hd h2 (fun q => absurd q (by first | exact not_not_intro hc | exact Int32.not_le.mpr hc)) (fun q => kk _ h)
      · rw [if_neg hc] at h
        exact lv_if_le (x := a) (rest := t.map (cv ad)) hx hb hd h2 (fun q => kk _ h) (fun q => absurd (by first | exact hc | exact Int32.not_lt.mp hc) q)
  case if_icmp cc o =>
    simp only [chk2, Bool.and_eq_true, decide_eq_true_eq] at h2
    obtain ⟨rfl, h2⟩ := h2
    obtain ⟨a, b, t, rfl, hq9⟩ := pII_s h
    clear h
    have h := hq9
    have kk : ∀ q, go q lv t O = some res → W p l e R s m args below meth c H locs cells slots Q (F0 m q ls (t.map (cv ad))) := fun q hq => IH _ _ _ _ _ _ _ hq h8 hlv (okS_tl (okS_tl hst)) hP hS hl
    unfold jmp at h
    cases cc with
    | eq =>
      have h : (if a = b then go x lv t O else go (pc + 3) lv t O) = some res := h
      by_cases hc : a = b
      · rw [if_pos hc] at h
        exact lv_icmp_eq (x := a) (y := b) (rest := t.map (cv ad)) hx hb hd h2 (fun q => kk _ h) (fun q => absurd hc q)
      · rw [if_neg hc] at h
        exact lv_icmp_eq (x := a) (y := b) (rest := t.map (cv ad)) hx hb hd h2 (fun q => absurd q hc) (fun q => kk _ h)
    | ne =>
      have h : (if a = b then go (pc + 3) lv t O else go x lv t O) = some res := h
      by_cases hc : a = b
      · rw [if_pos hc] at h
        exact lv_icmp_ne (x := a) (y := b) (rest := t.map (cv ad)) hx hb hd h2 (fun q => absurd q (by first | exact not_not_intro hc | exact Int32.not_le.mpr hc)) (fun q => kk _ h)
      · rw [if_neg hc] at h
        exact lv_icmp_ne (x := a) (y := b) (rest := t.map (cv ad)) hx hb hd h2 (fun q => kk _ h) (fun q => absurd q hc)
    | lt =>
      have h : (if a < b then go x lv t O else go (pc + 3) lv t O) = some res := h
      by_cases hc : a < b
      · rw [if_pos hc] at h
        exact lv_icmp_lt (x := a) (y := b) (rest := t.map (cv ad)) hx hb hd h2 (fun q => kk _ h) (fun q => absurd hc q)
      · rw [if_neg hc] at h
        exact lv_icmp_lt (x := a) (y := b) (rest := t.map (cv ad)) hx hb hd h2 (fun q => absurd q hc) (fun q => kk _ h)
    | ge =>
      have h : (if a < b then go (pc + 3) lv t O else go x lv t O) = some res := h
      by_cases hc : a < b
      · rw [if_pos hc] at h
        exact lv_icmp_ge (x := a) (y := b) (rest := t.map (cv ad)) hx hb hd h2 (fun q => absurd q (by first | exact not_not_intro hc | exact Int32.not_le.mpr hc)) (fun q => kk _ h)
      · rw [if_neg hc] at h
        exact lv_icmp_ge (x := a) (y := b) (rest := t.map (cv ad)) hx hb hd h2 (fun q => kk _ h) (fun q => absurd (by first | exact hc | exact Int32.not_lt.mp hc) q)
    | gt =>
      have h : (if b < a then go x lv t O else go (pc + 3) lv t O) = some res := h
      by_cases hc : b < a
      · rw [if_pos hc] at h
        exact lv_icmp_gt (x := a) (y := b) (rest := t.map (cv ad)) hx hb hd h2 (fun q => kk _ h) (fun q => absurd hc q)
      · rw [if_neg hc] at h
        exact lv_icmp_gt (x := a) (y := b) (rest := t.map (cv ad)) hx hb hd h2 (fun q => absurd q hc) (fun q => kk _ h)
    | le =>
      have h : (if b < a then go (pc + 3) lv t O else go x lv t O) = some res := h
      by_cases hc : b < a
      · rw [if_pos hc] at h
        exact lv_icmp_le (x := a) (y := b) (rest := t.map (cv ad)) hx hb hd h2 (fun q => absurd q (by first | exact not_not_intro hc | exact Int32.not_le.mpr hc)) (fun q => kk _ h)
      · rw [if_neg hc] at h
        exact lv_icmp_le (x := a) (y := b) (rest := t.map (cv ad)) hx hb hd h2 (fun q => kk _ h) (fun q => absurd (by first | exact hc | exact Int32.not_lt.mp hc) q)
  case goto o =>
    simp only [chk2, Bool.and_eq_true, decide_eq_true_eq] at h2
    obtain ⟨rfl, h2⟩ := h2
    exact lv_goto hx hb hd h2 (IH _ _ _ _ _ _ _ h h8 hlv hst hP hS hl)
  case tableswitch dd lo hi offs =>
    simp only [chk2, ckS, Bool.and_eq_true, decide_eq_true_eq, List.all_eq_true, List.mem_range] at h2
    obtain ⟨⟨h3, h4, h5⟩, h6⟩ := h2
    obtain ⟨a, t, rfl, hq9⟩ := pI_s h
    clear h
    have h := hq9
    have kk : ∀ q, go q lv t O = some res → W p l e R s m args below meth c H locs cells slots Q (F0 m q ls (t.map (cv ad))) := fun q hq => IH _ _ _ _ _ _ _ hq h8 hlv (okS_tl hst) hP hS hl
    rcases swg_s (a := a) (g := fun q => go q lv t O) (swT_ x).1 (swT_ x).2 with ⟨j, q, hj, e⟩ | ⟨hn, e⟩
    · rw [e] at h
      have hjl : j < offs.size := by rw [← h3]; exact (List.getElem?_eq_some_iff.mp hj).1
      obtain ⟨g1, g2⟩ := h6 j hjl
      rw [List.getD_eq_getElem?_getD, hj, Option.getD_some] at g1 g2
      have g1 : a.toInt = lo + (j : Int) := g1
      have ho : offs[j]? = some (offs.getD j 0) := by rw [Array.getD_eq_getD_getElem?, Array.getElem?_eq_getElem hjl]; rfl
      exact lv_tableIn (rest := t.map (cv ad)) hx hb hd (by omega) (by omega) (by rw [show (a.toInt - lo).toNat = j by omega]; exact ho) g2 (kk _ h)
    · rw [e] at h
      refine lv_tableOut (rest := t.map (cv ad)) hx hb hd ?_ h5 (kk _ h)
      by_cases q1 : a.toInt < lo
      · exact Or.inl q1
      · by_cases q2 : hi < a.toInt
        · exact Or.inr q2
        · exfalso
          have hjl : (a.toInt - lo).toNat < offs.size := by omega
          have hj : (swT_ x).1[(a.toInt - lo).toNat]? = some ((swT_ x).1.getD (a.toInt - lo).toNat (0, 0)) := by
            rw [List.getD_eq_getElem?_getD, List.getElem?_eq_getElem (by omega)]; rfl
          obtain ⟨g1, -⟩ := h6 _ hjl
          generalize hgg : (swT_ x).1.getD (a.toInt - lo).toNat (0, 0) = gg at hj g1
          obtain ⟨x1, k1⟩ := gg
          have g1 : x1.toInt = lo + (((a.toInt - lo).toNat : Nat) : Int) := g1
          exact hn _ _ _ hj (Int32.toInt_inj.mp (by omega))
  case lookupswitch dd ps =>
    simp only [chk2, ckO, Bool.and_eq_true, decide_eq_true_eq] at h2
    obtain ⟨⟨h3, h4⟩, h5⟩ := h2
    obtain ⟨a, t, rfl, hq9⟩ := pI_s h
    clear h
    have h := hq9
    have kk : ∀ q, go q lv t O = some res → W p l e R s m args below meth c H locs cells slots Q (F0 m q ls (t.map (cv ad))) := fun q hq => IH _ _ _ _ _ _ _ hq h8 hlv (okS_tl hst) hP hS hl
    obtain ⟨q, hq1, hq2⟩ := swg_look (g := fun q => go q lv t O) (a := a) (pc := pc) (dd := dd) (d := (swT_ x).2) h3 ps.toList (swT_ x).1 h4
    rw [hq2] at h
    exact lv_lookup (rest := t.map (cv ad)) hx hb hd h5 rfl hq1 (kk _ h)
  case getfield i =>
    simp only [chk2, Bool.and_eq_true, decide_eq_true_eq] at h2
    obtain ⟨⟨rfl, hx8, hy, rfl⟩, hw⟩ := h2
    obtain ⟨c9, n9, q9, t, rfl, hq9⟩ := pR_s h
    clear h
    have h := hq9
    cases hb9 : (c9.beq x && q9.beq 0) with
    | false => rw [hb9] at h; cases h
    | true =>
      rw [hb9] at h
      rw [Bool.and_eq_true] at hb9
      obtain rfl := Nat.eq_of_beq_eq_true hb9.1
      obtain rfl := Nat.eq_of_beq_eq_true hb9.2
      have hc := okc_cell (okS_hd hst) (by omega)
      obtain ⟨q0, hq⟩ := cell_at hc
      exact va_get (rest := t.map (cv ad)) (T := (rcl c9).2.1) hx hb hts (rcl_in hx8) hown E.1 hP q0 (wo_get hq) (rcl_mem hx8) y hy (hts _ (wq_at hw)) (fun _ h9 => h9) (fls_get hy) hd (IH _ _ _ _ _ _ _ h h8 hlv (okS_cons (cell_fld hc hy) (okS_tl hst)) hP hS hl)
  case putfield i =>
    simp only [chk2, Bool.and_eq_true, decide_eq_true_eq] at h2
    obtain ⟨⟨⟨rfl, hx8, hy, hfin⟩, hw⟩, hz⟩ := h2
    obtain ⟨c9, n9, q9, v9, t, rfl, hq9⟩ := pRV_s h
    clear h
    have h := hq9
    cases hb9 : (c9.beq x && q9.beq 0) with
    | false => rw [hb9] at h; cases h
    | true =>
      rw [hb9] at h
      rw [Bool.and_eq_true] at hb9
      obtain rfl := Nat.eq_of_beq_eq_true hb9.1
      obtain rfl := Nat.eq_of_beq_eq_true hb9.2
      have hc := okc_cell (okS_hd (okS_tl hst)) (by omega)
      obtain ⟨q0, hq⟩ := cell_at hc
      obtain ⟨ty0, hty⟩ := rcl_ty hx8
      have main : ∀ (ty : FieldType) (v : Value) (a : Int32), parseFieldDescriptor (fdw c9 y).2.2.1 = some ty → narrow ty v = v → fits ty v = true → cv ad (gfv (fkd c9 y) c9 n9 y (up O c9 n9 0 y a)) = v → go (pc + 3) lv t (up O c9 n9 0 y a) = some res →
          W p l e R s m args below meth c H locs cells slots Q (F0 m pc ls (v :: .ref (ad c9 n9 0) :: t.map (cv ad))) := by
        intro ty v a g1 g2 g3 g4 hgo
        refine va_put (rest := t.map (cv ad)) (T := (rcl c9).2.1) hx hb hts (rcl_in hx8) ty0 hty (rcl_nm hx8) hown E.1 hP hin.D hS q0 (wo_get hq) (rcl_mem hx8) y hy (hts _ (wq_at hw)) (fun _ h9 => h9) hfin g1 g2 g3 (by rw [fls_len]; exact hy) hd (fun H1 locs1 hP1 _ hS1 => ?_)
        refine IH _ _ _ _ _ _ _ hgo ((up8 (by omega)).trans h8) hlv (okS_tl (okS_tl hst)) ?_ hS1 hl
        rw [fls_set hy g4] at hP1
        rw [← wo_set (ad := ad) (cs := cs) (O := O) (O' := up O c9 n9 0 y a) hq (fun y9 _ hne => cel_congr (wup_ne hne))]
        exact hP1
      match z, v9, hz, h with
      | 0, Sum.inl a, hz, h =>
        obtain ⟨f1, f2⟩ := of_decide_eq_true hz
        exact main _ _ a f2 rfl rfl (by rw [f1]; show Value.int (up O c9 n9 0 y a c9 n9 0 y) = _; rw [up_at, if_pos rfl]; rfl) h
      | 1, Sum.inl a, hz, h =>
        obtain ⟨f1, f2⟩ := of_decide_eq_true hz
        have h : (if a = 0 ∨ a = 1 then go (pc + 3) lv t (up O c9 n9 0 y a) else none) = some res := h
        by_cases ha : a = 0 ∨ a = 1
        · rw [if_pos ha] at h
          exact main _ _ a f2 (bool_nar ha).1 (bool_nar ha).2.1 (by rw [f1]; show Value.int (up O c9 n9 0 y a c9 n9 0 y) = _; rw [up_at, if_pos rfl]; rfl) h
        · rw [if_neg ha] at h; cases h
      | 2, Sum.inr (Sum.inr (c2, n2, p2)), hz, h =>
        obtain ⟨f1, f2⟩ := of_decide_eq_true hz
        have h : (bif c2.beq 4 && p2.beq 0 then go (pc + 3) lv t (up O c9 n9 0 y (nI n2)) else none) = some res := h
        cases hb8 : (c2.beq 4 && p2.beq 0) with
        | false => rw [hb8] at h; cases h
        | true =>
          rw [hb8] at h
          rw [Bool.and_eq_true] at hb8
          obtain rfl := Nat.eq_of_beq_eq_true hb8.1
          obtain rfl := Nat.eq_of_beq_eq_true hb8.2
          have hc2 := okc_cell (okS_hd hst) (by decide)
          have hn2 : n2 = 0 ∨ n2 = 1 := told_two hc2
          refine main _ _ (nI n2) f2 rfl rfl ?_ h
          rw [f1]
          show Value.ref (ad 4 (sel (up O c9 n9 0 y (nI n2) c9 n9 0 y)) 0) = Value.ref (ad 4 n2 0)
          rw [up_at, if_pos rfl]
          rcases hn2 with rfl | rfl <;> rfl
  case iaload =>
    obtain rfl : len = 1 := of_decide_eq_true h2
    obtain ⟨c9, n9, q9, i, t, rfl, hq9⟩ := pRI_s h
    clear h
    have h := hq9
    cases h89 : c9.beq 8 with
    | true =>
      rw [h89] at h
      obtain rfl := Nat.eq_of_beq_eq_true h89
      have hr : okc lw 8 n9 q9 := okS_hd (okS_tl hst)
      rcases hr with hr | ⟨hr, -⟩ | ⟨-, rfl, rfl⟩
      · exact absurd (cell_lt hr) (by decide)
      · cases hr
      · obtain ⟨L, xs, hL, hX, hbl, hbA, hlen, hxs⟩ := hsc
        have h : (if ib i (O 8 0 1 0).toNatClampNeg then go (pc + 1) lv (vi (O 8 0 0 i.toNatClampNeg) :: t) O else none) = some res := h
        rw [h8, hlen, nI_clamp hL] at h
        by_cases hi : ib i L = true
        · rw [if_pos hi] at h
          rw [hxs _ (ib_lt hi)] at h
          exact va_sld (rest := t.map (cv ad)) hx hb hX hbl hbA hS (ib_in hi) hd (IH _ _ _ _ _ _ _ h h8 hlv (okS_cons trivial (okS_tl (okS_tl hst))) hP hS hl)
        · rw [if_neg hi] at h; cases h
    | false =>
      rw [h89] at h
      cases ht9 : (aty c9 q9).beq 0 with
      | false => rw [ht9] at h; cases h
      | true =>
        rw [ht9] at h
        have ht := Nat.eq_of_beq_eq_true ht9
        have hc := okc_cell (okS_hd (okS_tl hst)) (aty_lt (p := q9) (by omega))
        obtain ⟨q0, hq, -⟩ := wo_row (ad := ad) (cs := cs) (O := O) (j := 0) (v := 0) hc (by decide) ht
        have h : (if ib i (aln c9 q9) then go (pc + 1) lv (vi (O c9 n9 q9 i.toNatClampNeg) :: t) O else none) = some res := h
        by_cases hi : ib i (aln c9 q9) = true
        · rw [if_pos hi] at h
          exact va_iald (rest := t.map (cv ad)) hx hb E.1 hP q0 0 hq rfl (ib_in hi) hd (IH _ _ _ _ _ _ _ h h8 hlv (okS_cons trivial (okS_tl (okS_tl hst))) hP hS hl)
        · rw [if_neg hi] at h; cases h
  case baload =>
    obtain rfl : len = 1 := of_decide_eq_true h2
    obtain ⟨c9, n9, q9, i, t, rfl, hq9⟩ := pRI_s h
    clear h
    have h := hq9
    cases ht9 : (aty c9 q9).beq 1 with
    | false => rw [ht9] at h; cases h
    | true =>
      rw [ht9] at h
      have ht := Nat.eq_of_beq_eq_true ht9
      have hc := okc_cell (okS_hd (okS_tl hst)) (aty_lt (p := q9) (by omega))
      obtain ⟨q0, hq, -⟩ := wo_row (ad := ad) (cs := cs) (O := O) (j := 0) (v := 0) hc (by decide) ht
      have h : (if ib i (aln c9 q9) then go (pc + 1) lv (vi (O c9 n9 q9 i.toNatClampNeg) :: t) O else none) = some res := h
      by_cases hi : ib i (aln c9 q9) = true
      · rw [if_pos hi] at h
        exact va_zald (rest := t.map (cv ad)) hx hb E.1 hP q0 1 hq rfl (ib_in hi) hd (IH _ _ _ _ _ _ _ h h8 hlv (okS_cons trivial (okS_tl (okS_tl hst))) hP hS hl)
      · rw [if_neg hi] at h; cases h
  case aaload =>
    obtain rfl : len = 1 := of_decide_eq_true h2
    obtain ⟨c9, n9, q9, i, t, rfl, hq9⟩ := pRI_s h
    clear h
    have h := hq9
    cases ht9 : (Nat.blt 1 (aty c9 q9) && (aty c9 q9).blt 5) with
    | false => rw [ht9] at h; cases h
    | true =>
      rw [ht9] at h
      rw [Bool.and_eq_true] at ht9
      have ht1 := Nat.blt_eq.mp ht9.1
      have ht2 := Nat.blt_eq.mp ht9.2
      have hc := okc_cell (okS_hd (okS_tl hst)) (aty_lt (p := q9) (by omega))
      have h : (if ib i (aln c9 q9) then go (pc + 1) lv (aref c9 n9 q9 i.toNatClampNeg :: t) O else none) = some res := h
      by_cases hi : ib i (aln c9 q9) = true
      · rw [if_pos hi] at h
        obtain ⟨r9, hr, hok⟩ := cell_ref (lw := lw) hc ht9.1 ht9.2 (ib_lt hi)
        have hv : cv ad (aref c9 n9 q9 i.toNatClampNeg) = va_rf (some (rad ad (aref c9 n9 q9 i.toNatClampNeg))) := by rw [hr]; rfl
        have hg := IH _ _ _ _ _ _ _ h h8 hlv (okS_cons (by rw [hr]; exact hok) (okS_tl (okS_tl hst))) hP hS hl
        obtain ⟨q0, hq⟩ := cell_at hc
        obtain ⟨p', rfl⟩ := aty_pos hc (by omega)
        have hat := wo_get (ad := ad) (cs := cs) (O := O) hq
        have hce : cel ad cs O (c9, n9, p' + 1) = .inl (cs (aty c9 (p' + 1)), aln c9 (p' + 1), .inr (.inr (.inr (.inr fun i => some (rad ad (aref c9 n9 (p' + 1) i)))))) := by
          simp only [cel]
          rw [show (aty c9 (p' + 1)).blt 2 = false from by
            cases hq : (aty c9 (p' + 1)).blt 2 with
            | false => rfl
            | true => rw [Nat.blt_eq] at hq; omega, show (aty c9 (p' + 1)).beq 5 = false from by
            cases hq : (aty c9 (p' + 1)).beq 5 with
            | false => rfl
            | true => have := Nat.eq_of_beq_eq_true hq; omega]
          rfl
        rw [hce] at hat
        rw [List.map_cons, hv] at hg
        have hty : ∃ (ty : FieldType), ty.isReference = true ∧ (tyL cs)[aty c9 (p' + 1)]? = some (cs (aty c9 (p' + 1)), ty) := by
          generalize aty c9 (p' + 1) = z9 at ht1 ht2
          match z9, ht1, ht2 with
          | 2, _, _ => exact ⟨_, rfl, rfl⟩
          | 3, _, _ => exact ⟨_, rfl, rfl⟩
          | 4, _, _ => exact ⟨_, rfl, rfl⟩
        obtain ⟨ty, hty1, hty2⟩ := hty
        have hlt := ib_lt hi
        refine W.aald (v := va_rf (some (rad ad (aref c9 n9 (p' + 1) i.toNatClampNeg)))) (ty := ty) hx hb (hP q0 _ hat) ((E.1.2 _ _ hty2).1 _ (fun j => va_rf (some (rad ad (aref c9 n9 (p' + 1) j))))) hty1 (fun q => by cases q) (by show ¬ (i < 0 ∨ (arrV _ _ _).slots.size ≤ _); rw [arrV_size]; exact ib_in hi) (by show (arrV _ _ _).slots[_]? = _; rw [arrV_read _ _ hlt]) rfl rfl hd hg
      · rw [if_neg hi] at h; cases h
  case iastore =>
    obtain rfl : len = 1 := of_decide_eq_true h2
    obtain ⟨c9, n9, q9, i, v, t, rfl, hq9⟩ := pRII_s h
    clear h
    have h := hq9
    cases ht9 : (aty c9 q9).beq 0 with
    | false => rw [ht9] at h; cases h
    | true =>
      rw [ht9] at h
      have ht := Nat.eq_of_beq_eq_true ht9
      have hc8 : c9 < 8 := aty_lt (p := q9) (by omega)
      have hc := okc_cell (okS_hd (okS_tl (okS_tl hst))) hc8
      have h : (if ib i (aln c9 q9) then go (pc + 1) lv t (up O c9 n9 q9 i.toNatClampNeg v) else none) = some res := h
      by_cases hi : ib i (aln c9 q9) = true
      · rw [if_pos hi] at h
        obtain ⟨q0, hq, hset⟩ := wo_row (ad := ad) (cs := cs) (O := O) (j := i.toNatClampNeg) (v := v) hc (by decide) ht
        refine va_iast (rest := t.map (cv ad)) hx hb E.1 hP hin.D hS q0 0 hq rfl (ib_in hi) hd (fun H1 locs1 hP1 _ hS1 => ?_)
        rw [hset _ rfl] at hP1
        exact IH _ _ _ _ _ _ _ h ((up8 hc8).trans h8) hlv (okS_tl (okS_tl (okS_tl hst))) hP1 hS1 hl
      · rw [if_neg hi] at h; cases h
  case bastore =>
    obtain rfl : len = 1 := of_decide_eq_true h2
    obtain ⟨c9, n9, q9, i, v, t, rfl, hq9⟩ := pRII_s h
    clear h
    have h := hq9
    cases ht9 : (aty c9 q9).beq 1 with
    | false => rw [ht9] at h; cases h
    | true =>
      rw [ht9] at h
      have ht := Nat.eq_of_beq_eq_true ht9
      have hc8 : c9 < 8 := aty_lt (p := q9) (by omega)
      have hc := okc_cell (okS_hd (okS_tl (okS_tl hst))) hc8
      have h : (if ib i (aln c9 q9) then (if v = 0 ∨ v = 1 then go (pc + 1) lv t (up O c9 n9 q9 i.toNatClampNeg v) else none) else none) = some res := h
      by_cases hi : ib i (aln c9 q9) = true
      · rw [if_pos hi] at h
        by_cases hv : v = 0 ∨ v = 1
        · rw [if_pos hv] at h
          obtain ⟨q0, hq, hset⟩ := wo_row (ad := ad) (cs := cs) (O := O) (j := i.toNatClampNeg) (v := v) hc (by decide) ht
          refine va_zast (rest := t.map (cv ad)) hx hb E.1 hP hin.D hS q0 1 hq rfl (ib_in hi) hd (fun H1 locs1 hP1 _ hS1 => ?_)
          rw [(bool_nar hv).2.2, hset _ rfl] at hP1
          exact IH _ _ _ _ _ _ _ h ((up8 hc8).trans h8) hlv (okS_tl (okS_tl (okS_tl hst))) hP1 hS1 hl
        · rw [if_neg hv] at h; cases h
      · rw [if_neg hi] at h; cases h
  case laload =>
    obtain rfl : len = 1 := of_decide_eq_true h2
    obtain ⟨c9, n9, q9, i, t, rfl, hq9⟩ := pRI_s h
    clear h
    have h := hq9
    cases ht9 : (aty c9 q9).beq 5 with
    | false => rw [ht9] at h; cases h
    | true =>
      rw [ht9] at h
      have ht := Nat.eq_of_beq_eq_true ht9
      have hc := okc_cell (okS_hd (okS_tl hst)) (aty_lt (p := q9) (by omega))
      obtain ⟨q0, hq, -⟩ := wo_rowL (ad := ad) (cs := cs) (O := O) (j := 0) (v := 0) hc ht
      have h : (if ib i (aln c9 q9) then go (pc + 1) lv (vl (rdL O c9 n9 q9 i.toNatClampNeg) :: t) O else none) = some res := h
      by_cases hi : ib i (aln c9 q9) = true
      · rw [if_pos hi] at h
        exact va_lald (rest := t.map (cv ad)) hx hb E.1 hP q0 5 hq rfl (ib_in hi) hd (IH _ _ _ _ _ _ _ h h8 hlv (okS_cons trivial (okS_tl (okS_tl hst))) hP hS hl)
      · rw [if_neg hi] at h; cases h
  case lastore =>
    obtain rfl : len = 1 := of_decide_eq_true h2
    obtain ⟨c9, n9, q9, i, v, t, rfl, hq9⟩ := pRIL_s h
    clear h
    have h := hq9
    cases ht9 : (aty c9 q9).beq 5 with
    | false => rw [ht9] at h; cases h
    | true =>
      rw [ht9] at h
      have ht := Nat.eq_of_beq_eq_true ht9
      have hc8 : c9 < 8 := aty_lt (p := q9) (by omega)
      have hc := okc_cell (okS_hd (okS_tl (okS_tl hst))) hc8
      have h : (if ib i (aln c9 q9) then go (pc + 1) lv t (upL O c9 n9 q9 i.toNatClampNeg v) else none) = some res := h
      by_cases hi : ib i (aln c9 q9) = true
      · rw [if_pos hi] at h
        obtain ⟨q0, hq, hset⟩ := wo_rowL (ad := ad) (cs := cs) (O := O) (j := i.toNatClampNeg) (v := v) hc ht
        refine va_last (rest := t.map (cv ad)) hx hb E.1 hP hin.D hS q0 5 hq rfl (ib_in hi) hd (fun H1 locs1 hP1 _ hS1 => ?_)
        rw [hset] at hP1
        exact IH _ _ _ _ _ _ _ h ((upL8 hc8).trans h8) hlv (okS_tl (okS_tl (okS_tl hst))) hP1 hS1 hl
      · rw [if_neg hi] at h; cases h
  case newarray ty =>
    simp only [chk2, Bool.and_eq_true, decide_eq_true_eq] at h2
    obtain ⟨rfl, rfl, rfl, hml2⟩ := h2
    cases st with
    | nil => cases h
    | cons v t =>
      rcases v with a | a
      · cases t with
        | cons w t => cases h
        | nil =>
          have hgo : (bif Nat.beq 305 305 && hlt hLv lv then (if a = nI 60 then some (nI 7, O) else none) else none) = some res := h
          clear h
          cases hq : hlt hLv lv with
          | false => rw [hq] at hgo; cases hgo
          | true =>
            rw [hq] at hgo
            have hgo : (if a = nI 60 then some (nI 7, O) else none) = some res := hgo
            by_cases ha : a = nI 60
            · rw [if_pos ha] at hgo
              cases hgo
              subst ha
              rw [hlt_s hLv lv 0 hq] at hl
              exact hfn _ _ _ O hd hml2 rfl hP hS hl
            · rw [if_neg ha] at hgo; cases hgo
      · cases h
  case arraylength =>
    obtain rfl : len = 1 := of_decide_eq_true h2
    obtain ⟨c9, n9, q9, t, rfl, hq9⟩ := pR_s h
    clear h
    have h := hq9
    cases h89 : c9.beq 8 with
    | false => rw [h89] at h; cases h
    | true =>
      rw [h89] at h
      obtain rfl := Nat.eq_of_beq_eq_true h89
      have hr : okc lw 8 n9 q9 := okS_hd hst
      rcases hr with hr | ⟨hr, -⟩ | ⟨-, rfl, rfl⟩
      · exact absurd (cell_lt hr) (by decide)
      · cases hr
      · obtain ⟨L, xs, hL, hX, hbl, hbA, hlen, hxs⟩ := hsc
        have h : go (pc + 1) lv (vi (O 8 0 1 0) :: t) O = some res := h
        rw [h8, hlen] at h
        exact va_slen (rest := t.map (cv ad)) hx hb hX hbl hbA hS hd (IH _ _ _ _ _ _ _ h h8 hlv (okS_cons trivial (okS_tl hst)) hP hS hl)
  case invokevirtual i =>
    exact snd_virt F E hsc hin hcall hjdk hk8 hrm hR hd h2 IH h h8 hlv hst hP hS hl
  case invokestatic i =>
    exact snd_stat F E hsc hin hcall hk8 hrm hR hd h2 IH h h8 hlv hst hP hS hl
  case ireturn =>
    simp only [chk2, Bool.and_eq_true, decide_eq_true_eq] at h2
    obtain ⟨rfl, h2⟩ := h2
    cases st with
    | nil => cases h
    | cons v t =>
      rcases v with a | a
      · cases t with
        | cons w t => cases h
        | nil =>
          rcases h2 with ⟨rfl, h2⟩ | ⟨rfl, h2⟩
          · cases h
            exact hfi _ _ _ _ a O hd (Or.inl h2) rfl hP hS
          · have hgo : (if a = 0 ∨ a = 1 then some (a, O) else none) = some res := h
            by_cases ha : a = 0 ∨ a = 1
            · rw [if_pos ha] at hgo
              cases hgo
              exact hfi _ _ _ _ a O hd (Or.inr ⟨h2, ha⟩) rfl hP hS
            · rw [if_neg ha] at hgo; cases hgo
      · cases h
  case return_ =>
    simp only [chk2, Bool.and_eq_true, decide_eq_true_eq] at h2
    obtain ⟨rfl, h2⟩ := h2
    cases st with
    | nil =>
      cases h
      exact hfv _ _ _ _ O hd h2 rfl hP hS
    | cons v t => cases h
  all_goals (exact absurd h (by intro q; cases q))
end SND2
end
section
/-! THE MACHINE DOES WHAT THE ABSTRACT ONE DOES: a run; every method keeps its contract. -/
theorem lk1_in : ∀ (l : List (Nat × E_)) (pc : Nat), (pc, lk1 l pc) ∈ l ∨ lk1 l pc = (.nop, 0, 0, 0, 0, 0, 0)
  | [], _ => Or.inr rfl
  | (q, e) :: l, pc => by
    cases h : q.beq pc with
    | true =>
      obtain rfl := Nat.eq_of_beq_eq_true h
      left
      show (q, bif q.beq q then e else lk1 l q) ∈ _
      rw [h]
      exact List.mem_cons_self
    | false =>
      have hq : lk1 ((q, e) :: l) pc = lk1 l pc := by
        show (bif q.beq pc then e else lk1 l pc) = _
        rw [h]; rfl
      rw [hq]
      rcases lk1_in l pc with h1 | h1
      · exact Or.inl (List.mem_cons_of_mem _ h1)
      · exact Or.inr h1
theorem lk_in (tb : List (List (Nat × E_))) (pc : Nat) : (∃ r ∈ tb, (pc, lk tb pc) ∈ r) ∨ lk tb pc = (.nop, 0, 0, 0, 0, 0, 0) := by
  rcases lk1_in (tb.getD (pc / 32) []) pc with h | h
  · left
    refine ⟨tb.getD (pc / 32) [], ?_, h⟩
    rw [List.getD_eq_getElem?_getD] at h ⊢
    cases hq : tb[pc / 32]? with
    | none => rw [hq] at h; cases h
    | some r => exact List.mem_of_getElem? hq
  · exact Or.inr h
def chkT (own : String) (cb : ByteArray) (ml : Nat) (rt : Option FieldType) (tb : List (List (Nat × E_))) : Bool := tb.all fun l => l.all fun q => chkE own cb ml rt q
theorem chk_lk {own : String} {cb : ByteArray} {ml pc : Nat} {rt : Option FieldType} {tb : List (List (Nat × E_))} (h : chkT own cb ml rt tb = true) : chkE own cb ml rt (pc, lk tb pc) = true ∨ lk tb pc = (.nop, 0, 0, 0, 0, 0, 0) := by
  rcases lk_in tb pc with ⟨r, h1, h2⟩ | h1
  · exact Or.inl (List.all_eq_true.mp (List.all_eq_true.mp h r h1) _ h2)
  · exact Or.inr h1
section SNDR
variable {p : Program} {l : Launch} {e : Env} {R : Room} {s : State} {m : MethodId} {args : Array Value} {below : List Frame} {meth : Method} {c : Code} {cells slots : Nat} {Q : State → Prop}
variable {D : va_G} {ad : AD_} {cs : Nat → ClassId} {adV : Nat → Nat} {A : Nat → Prop} {O0 : Mem_} {lw : Nat} {ml : Nat} {res : Rs_} {own : String} {cb : ByteArray} {rt : Option FieldType}
variable {f : Nat → Nat → Lv_ → List V_ → Mem_ → Option Rs_} {rm : Room}
theorem snd_run {tb : List (List (Nat × E_))} {ct : List (Nat × List Bool)} (F : Fr p s m args c own cb ml) (E : Ev D ad cs adV A s) (hin : Inj_ lw ad A) (hsc : Scr ad A s O0) (hcall : CallOK l f rm D lw ad cs adV) (hjdk : JdkOK l rm D lw ad cs adV)
    (hk8 : ∀ (x : Nat) (a : List V_) (O : Mem_) (r : Rs_), f x 0 (lay a) [] O = some r → r.2 8 = O 8) (hrm : rm.cells = 0 ∧ rm.slots = 0 ∧ rm.frames + 1 ≤ R.frames ∧ 39 + rm.locals ≤ R.locals) (hR : 1 ≤ R.frames ∧ 100 ≤ R.locals ∧ cells ≤ R.cells ∧ slots ≤ R.slots)
    (hck : chkT own cb ml rt tb = true)
    (hfi : ∀ (pc : Nat) (ls : Array Slot) (H : Heap) (locs : List Loc) (a : Int32) (O' : Mem_), decode cb pc = .ok (.ireturn, 1) → (rt = some .int ∨ (rt = some .boolean ∧ (a = 0 ∨ a = 1))) → res = (a, O') → va_P D vwCl (wo lw ad cs O') H → va_S A s.heap H locs → W p l e R s m args below meth c H locs cells slots Q (F0 m pc ls [.int a]))
    (hfv : ∀ (pc : Nat) (ls : Array Slot) (H : Heap) (locs : List Loc) (O' : Mem_), decode cb pc = .ok (.return_, 1) → rt = none → res = (0, O') → va_P D vwCl (wo lw ad cs O') H → va_S A s.heap H locs → W p l e R s m args below meth c H locs cells slots Q (F0 m pc ls []))
    (hfn : ∀ (ls : Array Slot) (H : Heap) (locs : List Loc) (O' : Mem_), decode cb 305 = .ok (.newarray .int, 2) → ml = 28 → res = (nI 7, O') → va_P D vwCl (wo lw ad cs O') H → va_S A s.heap H locs → lv_has ls ml ((hLv.zipIdx 0).map fun q => (q.2, Value.ref (ad q.1.1 0 q.1.2))) → W p l e R s m args below meth c H locs cells slots Q (F0 m 305 ls [.int (nI 60)])) :
    ∀ n : Nat, GoW p l e R s m args below meth c cells slots Q D ad cs A O0 lw ml res (rn_ swT_ (cl_ f) tb ct n) := by
  intro n
  induction n with
  | zero =>
    intro pc lv st O H locs ls h
    cases h
  | succ n ih =>
    intro pc lv st O H locs ls h h8 hlv hst hP hS hl
    have h : stp swT_ (cl_ f) (lk tb pc) pc lv st O (fun pc lv st O => rn_ swT_ (cl_ f) tb ct n pc (ctl ct pc lv) st O) = some res := h
    rcases chk_lk (pc := pc) hck with hq | hq
    · refine snd_stp F E hin hsc hcall hjdk hk8 hrm hR hq hfi hfv hfn ?_ h h8 hlv hst hP hS hl
      intro pc lv st O H locs ls h h8 hlv hst hP hS hl
      exact ih _ _ _ _ _ _ _ h h8 (ok_ctl hlv) hst hP hS (lv_mono hl asc_ctl)
    · rw [hq] at h
      cases h
end SNDR
/-- no run changes the script -/
def k8 (go : Go_) : Prop := ∀ (pc : Nat) (lv : Lv_) (st : List V_) (O : Mem_) (r : Rs_), go pc lv st O = some r → r.2 8 = O 8
theorem intr8 {x : Nat} {a : List V_} {O : Mem_} {r : Rs_} (h : intr x a O = some r) : r.2 8 = O 8 := by
  by_cases hx : x = 1000
  · subst hx
    obtain ⟨c0, n0, p0, sp, c, n, p, dp, k, rfl, h1, h2, -, -, rfl⟩ := intr_copy h
    exact cpy8 (aty_lt (p := p) (by omega))
  · by_cases hx3 : x = 1003
    · subst hx3
      obtain ⟨_, _, rfl⟩ := intr_len h
      rfl
    · by_cases hx4 : x = 1004
      · subst hx4
        obtain ⟨_, _, _, _, rfl⟩ := intr_at h
        rfl
      · unfold intr at h
        split at h
        · exact absurd rfl hx
        · cases h; rfl
        · cases h; rfl
        · exact absurd rfl hx3
        · exact absurd rfl hx4
        · cases h
theorem inv8 {call : Cl_} {virt : Bool} {x y z pc : Nat} {lv : Lv_} {st : List V_} {O : Mem_} {go : Go_} {res : Rs_} (hc : ∀ (x : Nat) (a : List V_) (O : Mem_) (r : Rs_), call x a O = some r → r.2 8 = O 8) (hg : k8 go) (h : inv call virt x y z pc lv st O go = some res) : res.2 8 = O 8 := by
  obtain ⟨a, t, r, rfl, -, -, -, -, hr, hq9⟩ := inv_s h
  have h1 := hc _ _ _ _ hr
  cases z with
  | zero => exact (hg _ _ _ _ _ hq9).trans h1
  | succ z => exact (hg _ _ _ _ _ hq9).trans h1
theorem jmp_s {cd : ClassFile.Cond} {a b : Int32} {t f : Option Rs_} {r : Rs_} (h : jmp cd a b t f = some r) : t = some r ∨ f = some r := by
  cases cd <;> (simp only [jmp] at h; split at h <;> first | exact Or.inl h | exact Or.inr h)
set_option maxHeartbeats 4000000 in
theorem stp8 {call : Cl_} {en : E_} {own : String} {ml : Nat} {rt : Option FieldType} {pc : Nat} {lv : Lv_} {st : List V_} {O : Mem_} {go : Go_} {res : Rs_} (hc : ∀ (x : Nat) (a : List V_) (O : Mem_) (r : Rs_), call x a O = some r → r.2 8 = O 8) (hg : k8 go) (h2 : chk2 own ml rt pc en = true) (h : stp swT_ call en pc lv st O go = some res) : res.2 8 = O 8 := by
  obtain ⟨ins, len, x, y, z, k, kl⟩ := en
  cases ins
  case ldc i =>
    have h : (bif z.beq 0 then go (pc + 2) lv (vi k :: st) O else go (pc + 2) lv (vr 9 x 0 :: st) O) = some res := h
    cases hz : z.beq 0 <;> rw [hz] at h <;> exact hg _ _ _ _ _ h
  case idiv =>
    obtain ⟨a, b, t, rfl, hq9⟩ := pII_s h
    clear h
    have h := hq9
    split at h
    · cases h
    · exact hg _ _ _ _ _ h
  case lrem =>
    obtain ⟨a, b, t, rfl, hq9⟩ := pLL_s h
    clear h
    have h := hq9
    split at h
    · cases h
    · exact hg _ _ _ _ _ h
  case laload =>
    obtain ⟨c9, n9, q9, i, t, rfl, hq9⟩ := pRI_s h
    clear h
    have h := hq9
    cases ht9 : (aty c9 q9).beq 5 with
    | false => rw [ht9] at h; cases h
    | true =>
      rw [ht9] at h
      have h : (if ib i (aln c9 q9) then go (pc + 1) lv (vl (rdL O c9 n9 q9 i.toNatClampNeg) :: t) O else none) = some res := h
      split at h
      · exact hg _ _ _ _ _ h
      · cases h
  case lastore =>
    obtain ⟨c9, n9, q9, i, v, t, rfl, hq9⟩ := pRIL_s h
    clear h
    have h := hq9
    cases ht9 : (aty c9 q9).beq 5 with
    | false => rw [ht9] at h; cases h
    | true =>
      rw [ht9] at h
      have ht := Nat.eq_of_beq_eq_true ht9
      have h : (if ib i (aln c9 q9) then go (pc + 1) lv t (upL O c9 n9 q9 i.toNatClampNeg v) else none) = some res := h
      split at h
      · exact (hg _ _ _ _ _ h).trans (upL8 (aty_lt (p := q9) (by omega)))
      · cases h
  case newarray ty =>
    cases st with
    | nil => cases h
    | cons v t =>
      rcases v with a | a
      · cases t with
        | cons w t => cases h
        | nil =>
          have hgo : (bif pc.beq 305 && hlt hLv lv then (if a = nI 60 then some (nI 7, O) else none) else none) = some res := h
          clear h
          cases hq : (pc.beq 305 && hlt hLv lv) with
          | false => rw [hq] at hgo; cases hgo
          | true =>
            rw [hq] at hgo
            have hgo : (if a = nI 60 then some (nI 7, O) else none) = some res := hgo
            split at hgo
            · cases hgo; rfl
            · cases hgo
      · cases h
  case irem =>
    obtain ⟨a, b, t, rfl, hq9⟩ := pII_s h
    clear h
    have h := hq9
    split at h
    · cases h
    · exact hg _ _ _ _ _ h
  case dup =>
    cases st with
    | nil => cases h
    | cons v t =>
      rcases v with a | a | ⟨c9, n9, q9⟩
      · exact hg _ _ (vi a :: vi a :: t) _ _ h
      · cases h
      · exact hg _ _ (vr c9 n9 q9 :: vr c9 n9 q9 :: t) _ _ h
  case ifCond cd o =>
    obtain ⟨a, t, rfl, hq9⟩ := pI_s h
    clear h
    have h := hq9
    rcases jmp_s h with h | h <;> exact hg _ _ _ _ _ h
  case if_icmp cd o =>
    obtain ⟨a, b, t, rfl, hq9⟩ := pII_s h
    clear h
    have h := hq9
    rcases jmp_s h with h | h <;> exact hg _ _ _ _ _ h
  case tableswitch d lo hi offs =>
    obtain ⟨a, t, rfl, hq9⟩ := pI_s h
    clear h
    have h := hq9
    rcases swg_s (a := a) (g := fun q => go q lv t O) (swT_ x).1 (swT_ x).2 with ⟨j, q, -, e⟩ | ⟨-, e⟩ <;> rw [e] at h <;> exact hg _ _ _ _ _ h
  case lookupswitch d ps =>
    obtain ⟨a, t, rfl, hq9⟩ := pI_s h
    clear h
    have h := hq9
    rcases swg_s (a := a) (g := fun q => go q lv t O) (swT_ x).1 (swT_ x).2 with ⟨j, q, -, e⟩ | ⟨-, e⟩ <;> rw [e] at h <;> exact hg _ _ _ _ _ h
  case getfield i =>
    obtain ⟨c9, n9, q9, t, rfl, hq9⟩ := pR_s h
    clear h
    have h := hq9
    cases hb9 : (c9.beq x && q9.beq 0) <;> rw [hb9] at h
    · cases h
    · exact hg _ _ _ _ _ h
  case putfield i =>
    simp only [chk2, Bool.and_eq_true, decide_eq_true_eq] at h2
    obtain ⟨⟨⟨-, hx8, -⟩, -⟩, -⟩ := h2
    obtain ⟨c9, n9, q9, v9, t, rfl, hq9⟩ := pRV_s h
    clear h
    have h := hq9
    cases hb9 : (c9.beq x && q9.beq 0) with
    | false => rw [hb9] at h; cases h
    | true =>
      rw [hb9] at h
      rw [Bool.and_eq_true] at hb9
      obtain rfl := Nat.eq_of_beq_eq_true hb9.1
      rw [cond_true] at h
      split at h
      · exact (hg _ _ _ _ _ h).trans (up8 (by omega))
      · split at h
        · exact (hg _ _ _ _ _ h).trans (up8 (by omega))
        · cases h
      · rename_i c2 n2 p2
        cases hb8 : (c2.beq 4 && p2.beq 0) <;> rw [hb8] at h
        · cases h
        · exact (hg _ _ _ _ _ h).trans (up8 (by omega))
      · cases h
  case iaload =>
    obtain ⟨c9, n9, q9, i, t, rfl, hq9⟩ := pRI_s h
    clear h
    have h := hq9
    cases h89 : c9.beq 8 with
    | true =>
      rw [h89] at h
      have h : (if ib i (O 8 0 1 0).toNatClampNeg then go (pc + 1) lv (vi (O 8 0 0 i.toNatClampNeg) :: t) O else none) = some res := h
      split at h
      · exact hg _ _ _ _ _ h
      · cases h
    | false =>
      rw [h89] at h
      cases ht9 : (aty c9 q9).beq 0 with
      | false => rw [ht9] at h; cases h
      | true =>
        rw [ht9] at h
        have h : (if ib i (aln c9 q9) then go (pc + 1) lv (vi (O c9 n9 q9 i.toNatClampNeg) :: t) O else none) = some res := h
        split at h
        · exact hg _ _ _ _ _ h
        · cases h
  case baload =>
    obtain ⟨c9, n9, q9, i, t, rfl, hq9⟩ := pRI_s h
    clear h
    have h := hq9
    cases ht9 : (aty c9 q9).beq 1 with
    | false => rw [ht9] at h; cases h
    | true =>
      rw [ht9] at h
      have h : (if ib i (aln c9 q9) then go (pc + 1) lv (vi (O c9 n9 q9 i.toNatClampNeg) :: t) O else none) = some res := h
      split at h
      · exact hg _ _ _ _ _ h
      · cases h
  case aaload =>
    obtain ⟨c9, n9, q9, i, t, rfl, hq9⟩ := pRI_s h
    clear h
    have h := hq9
    cases ht9 : (Nat.blt 1 (aty c9 q9) && (aty c9 q9).blt 5) with
    | false => rw [ht9] at h; cases h
    | true =>
      rw [ht9] at h
      have h : (if ib i (aln c9 q9) then go (pc + 1) lv (aref c9 n9 q9 i.toNatClampNeg :: t) O else none) = some res := h
      split at h
      · exact hg _ _ _ _ _ h
      · cases h
  case iastore =>
    obtain ⟨c9, n9, q9, i, v, t, rfl, hq9⟩ := pRII_s h
    clear h
    have h := hq9
    cases ht9 : (aty c9 q9).beq 0 with
    | false => rw [ht9] at h; cases h
    | true =>
      rw [ht9] at h
      have ht := Nat.eq_of_beq_eq_true ht9
      have h : (if ib i (aln c9 q9) then go (pc + 1) lv t (up O c9 n9 q9 i.toNatClampNeg v) else none) = some res := h
      split at h
      · exact (hg _ _ _ _ _ h).trans (up8 (aty_lt (p := q9) (by omega)))
      · cases h
  case bastore =>
    obtain ⟨c9, n9, q9, i, v, t, rfl, hq9⟩ := pRII_s h
    clear h
    have h := hq9
    cases ht9 : (aty c9 q9).beq 1 with
    | false => rw [ht9] at h; cases h
    | true =>
      rw [ht9] at h
      have ht := Nat.eq_of_beq_eq_true ht9
      have h : (if ib i (aln c9 q9) then (if v = 0 ∨ v = 1 then go (pc + 1) lv t (up O c9 n9 q9 i.toNatClampNeg v) else none) else none) = some res := h
      split at h
      · split at h
        · exact (hg _ _ _ _ _ h).trans (up8 (aty_lt (p := q9) (by omega)))
        · cases h
      · cases h
  case arraylength =>
    obtain ⟨c9, n9, q9, t, rfl, hq9⟩ := pR_s h
    clear h
    have h := hq9
    cases h89 : c9.beq 8 <;> rw [h89] at h
    · cases h
    · exact hg _ _ _ _ _ h
  case invokevirtual i => exact inv8 hc hg h
  case invokestatic i => exact inv8 hc hg h
  case ireturn =>
    cases st with
    | nil => cases h
    | cons v t =>
      rcases v with a | a
      · cases t with
        | cons w t => cases h
        | nil =>
          have hgo : (bif z.beq 0 then some (a, O) else if a = 0 ∨ a = 1 then some (a, O) else none) = some res := h
          clear h
          cases hz : z.beq 0 with
          | true => rw [hz] at hgo; cases hgo; rfl
          | false =>
            rw [hz, cond_false] at hgo
            split at hgo
            · cases hgo; rfl
            · cases hgo
      · cases h
  case return_ =>
    cases st with
    | nil => cases h; rfl
    | cons v t => cases h
  all_goals first
    | (exact absurd h (by intro q; cases q))
    | exact hg _ _ _ _ _ h
    | (obtain ⟨a, t, rfl, hq9⟩ := pI_s h; exact hg _ _ _ _ _ hq9)
    | (obtain ⟨a, b, t, rfl, hq9⟩ := pII_s h; exact hg _ _ _ _ _ hq9)
    | (obtain ⟨a, t, rfl, hq9⟩ := pL_s h; exact hg _ _ _ _ _ hq9)
    | (obtain ⟨a, b, t, rfl, hq9⟩ := pLL_s h; exact hg _ _ _ _ _ hq9)
    | (obtain ⟨a, b, t, rfl, hq9⟩ := pLI_s h; exact hg _ _ _ _ _ hq9)
    | (obtain ⟨c9, n9, q9, t, rfl, hq9⟩ := pR_s h; exact hg _ _ _ _ _ hq9)
    | (obtain ⟨c9, n9, q9, a, t, rfl, hq9⟩ := pRI_s h; exact hg _ _ _ _ _ hq9)
    | (obtain ⟨a, ha, h⟩ := gI_s h; exact hg _ _ _ _ _ h)
    | (obtain ⟨a, ha, h⟩ := gL_s h; exact hg _ _ _ _ _ h)
    | (obtain ⟨c9, n9, q9, ha, h⟩ := gR_s h; exact hg _ _ _ _ _ h)
theorem chk_any (x : Nat) : ∃ rt : Option FieldType, chkM x rt = true := by
  rcases Nat.lt_or_ge x 218 with h | h
  · exact ⟨_, ckA_c218 x h⟩
  · rcases Nat.eq_or_lt_of_le h with rfl | h
    · exact ⟨_, ck_218⟩
    · refine ⟨none, ?_⟩
      have h0 : tbs_.getD x [] = [] := by
        rw [List.getD_eq_getElem?_getD, List.getElem?_eq_none (show tbs_.length ≤ x from h)]
        rfl
      unfold chkM
      rw [h0]
      rfl
theorem rn8 {f : Nat → Nat → Lv_ → List V_ → Mem_ → Option Rs_} (hf : ∀ (x : Nat) (a : List V_) (O : Mem_) (r : Rs_), f x 0 (lay a) [] O = some r → r.2 8 = O 8) (x : Nat) : ∀ n : Nat, k8 (rn_ swT_ (cl_ f) (tbs_.getD x []) (cts_.getD x []) n)
  | 0 => fun pc lv st O r h => by cases h
  | n + 1 => fun pc lv st O r h => by
    have h : stp swT_ (cl_ f) (lk (tbs_.getD x []) pc) pc lv st O (fun pc lv st O => rn_ swT_ (cl_ f) (tbs_.getD x []) (cts_.getD x []) n pc (ctl (cts_.getD x []) pc lv) st O) = some r := h
    obtain ⟨rt, hck⟩ := chk_any x
    rcases chk_lk (pc := pc) (show chkT (mcl x).1.cls (mcl x).2.1 (mcl x).2.2.1 rt (tbs_.getD x []) = true from hck) with hq | hq
    · refine stp8 (fun x a O r hx => ?_) (fun pc lv st O r h => rn8 hf x n pc _ st O r h) ((Bool.and_eq_true _ _).mp hq).2 h
      unfold cl_ at hx
      cases hb : x.blt 1000 with
      | true => rw [hb] at hx; exact hf _ _ _ _ hx
      | false => rw [hb] at hx; exact intr8 hx
    · rw [hq] at h
      cases h
theorem ex8 : ∀ (d x : Nat), k8 (ex d x)
  | 0, x => fun pc lv st O r h => by cases h
  | d + 1, x => fun pc lv st O r h => by
    obtain ⟨n, hn⟩ := (lim_some (fun n m r h hr => rn_le h hr)).mp h
    exact rn8 (fun y a O r hy => ex8 d y 0 (lay a) [] O r hy) x n _ _ _ _ _ hn
abbrev rmD (d : Nat) : Room := { frames := d + 3, cells := 0, slots := 0, locals := 40 * d + 100 }
theorem met_ex {l : Launch} {D : va_G} {lw : Nat} {ad : AD_} {cs : Nat → ClassId} {adV : Nat → Nat} (hin : Inj_ lw ad (Aw lw ad)) (hjdk : ∀ d : Nat, JdkOK l (rmD d) D lw ad cs adV) : ∀ d : Nat, CallOK l (ex d) (rmD d) D lw ad cs adV
  | 0 => fun x a O r _ h => by cases h
  | d + 1 => by
    intro x a O r hx h hok hlen
    have hm : mwk x = true := by
      cases hq : mws_.getD x [] with
      | cons a9 l9 => exact mkA_c218 hx (k := l9.length) (by rw [hq]; rfl)
      | nil =>
        exfalso
        have h0 := meA_no hx hq
        have h9 : ex (d + 1) x 0 (lay a) [] O = none := by
          unfold ex
          rw [ex_eq, h0]
          rfl
        rw [h9] at h
        cases h
    refine Met.ofW (cc := (mcl x).2.1) (maxL := (mcl x).2.2.1) (ret := (mcl x).2.2.2) (mwk_s hm).1 rfl ?_
    intro p e s m args below meth c s₁ B hml hv
    obtain ⟨rfl, hP, E, hsc⟩ := hv
    have hts := atoms_spec (ws := mwd x) B.pre
    have F : Fr p s m (a.map (cv ad)).toArray c (mcl x).1.cls (mcl x).2.1 (mcl x).2.2.1 := ⟨B.exec, B.bytes, hml, findClass_of_methodNamed B.named, fun w hw => hts w (List.mem_cons_of_mem _ hw)⟩
    have hr := B.returns
    have hlocks := B.notSynchronized
    have hl := lv_entry (a.map (cv ad)) (n := (mcl x).2.2.1) (by rw [lay_len]; exact hlen)
    rw [lg_entry_eq]
    generalize (lg_sl (a.map (cv ad)) ++ List.replicate ((mcl x).2.2.1 - (lg_sl (a.map (cv ad))).length) Slot.unset).toArray = ls at hl ⊢
    rw [← asc_lay] at hl
    obtain ⟨n, hn⟩ := (lim_some (fun n m r h hr => rn_le h hr)).mp h
    refine snd_run (lw := lw) (A := Aw lw ad) (O0 := O) (tb := tbs_.getD x []) (ct := cts_.getD x []) (rt := (mcl x).2.2.2) (res := r) F E hin hsc (met_ex hin hjdk d) (hjdk d) (fun y a O r hy => ex8 d y 0 (lay a) [] O r hy) ⟨rfl, rfl, Nat.le_refl _, ?_⟩ ⟨?_, ?_, Nat.zero_le _, Nat.zero_le _⟩ (ckA_c218 x hx) ?_ ?_ ?_ n 0 (lay a) [] O s.heap [] ls hn rfl (ok_lay _ hok) (fun v hv => by cases hv) hP va_S.rf hl
    · show 39 + (40 * d + 100) ≤ 40 * (d + 1) + 100
      omega
    · show 1 ≤ d + 1 + 3
      omega
    · show 100 ≤ 40 * (d + 1) + 100
      omega
    · intro pc ls H locs v O' hdg hrt hres hP' hS'
      subst hres
      rcases hrt with hrt | ⟨hrt, hv⟩
      · refine W.iret B.exec B.bytes (hr.trans hrt) (fun t ht _ => ?_) hS'.2.2 hdg hlocks
        rw [hrt]
        exact ⟨⟨v, (), rfl, rfl, by show va_P D vwCl (wo lw ad cs O') t.heap; rw [ht]; exact hP'⟩, hS'.F ht⟩
      · refine W.zret B.exec B.bytes (hr.trans hrt) (bool_nar hv).1 (fun t ht _ => ?_) hS'.2.2 hdg hlocks
        rw [hrt]
        exact ⟨⟨v, (), rfl, rfl, by show va_P D vwCl (wo lw ad cs O') t.heap; rw [ht]; exact hP'⟩, hS'.F ht⟩
    · intro pc ls H locs O' hdg hrt hres hP' hS'
      subst hres
      refine W.vret B.exec B.bytes (hr.trans hrt) (fun t ht _ => ?_) hS'.2.2 hdg hlocks
      rw [hrt]
      exact ⟨⟨(), rfl, trivial, by show va_P D vwCl (wo lw ad cs O') t.heap; rw [ht]; exact hP'⟩, hS'.F ht⟩
    · intro ls H locs O' _ h28
      have := (mwk_s hm).2.2.2
      omega
end
section
/-! THE JDK METHODS that are reached: length and charAt of a String constant. -/
theorem dJ0_length_8abf5_0 : decode cJ0_length_8abf5 0 = .ok (.aload_n 0, 1) := by decide +kernel
theorem dJ0_length_8abf5_1 : decode cJ0_length_8abf5 1 = .ok (.getfield 9, 3) := by decide +kernel
theorem dJ0_length_8abf5_4 : decode cJ0_length_8abf5 4 = .ok (.arraylength, 1) := by decide +kernel
theorem dJ0_length_8abf5_5 : decode cJ0_length_8abf5 5 = .ok (.aload_n 0, 1) := by decide +kernel
theorem dJ0_length_8abf5_6 : decode cJ0_length_8abf5 6 = .ok (.invokevirtual 335, 3) := by decide +kernel
theorem dJ0_length_8abf5_9 : decode cJ0_length_8abf5 9 = .ok (.ishr, 1) := by decide +kernel
theorem dJ0_length_8abf5_10 : decode cJ0_length_8abf5 10 = .ok (.ireturn, 1) := by decide +kernel
theorem dJ0_charAt_5068e_0 : decode cJ0_charAt_5068e 0 = .ok (.aload_n 0, 1) := by decide +kernel
theorem dJ0_charAt_5068e_1 : decode cJ0_charAt_5068e 1 = .ok (.invokevirtual 492, 3) := by decide +kernel
theorem dJ0_charAt_5068e_4 : decode cJ0_charAt_5068e 4 = .ok (.ifCond .eq 12, 3) := by decide +kernel
theorem dJ0_charAt_5068e_7 : decode cJ0_charAt_5068e 7 = .ok (.aload_n 0, 1) := by decide +kernel
theorem dJ0_charAt_5068e_8 : decode cJ0_charAt_5068e 8 = .ok (.getfield 9, 3) := by decide +kernel
theorem dJ0_charAt_5068e_11 : decode cJ0_charAt_5068e 11 = .ok (.iload_n 1, 1) := by decide +kernel
theorem dJ0_charAt_5068e_12 : decode cJ0_charAt_5068e 12 = .ok (.invokestatic 495, 3) := by decide +kernel
theorem dJ0_charAt_5068e_15 : decode cJ0_charAt_5068e 15 = .ok (.ireturn, 1) := by decide +kernel
theorem dJ0_charAt_5068e_16 : decode cJ0_charAt_5068e 16 = .ok (.aload_n 0, 1) := by decide +kernel
theorem dJ0_charAt_5068e_17 : decode cJ0_charAt_5068e 17 = .ok (.getfield 9, 3) := by decide +kernel
theorem dJ0_charAt_5068e_20 : decode cJ0_charAt_5068e 20 = .ok (.iload_n 1, 1) := by decide +kernel
theorem dJ0_charAt_5068e_21 : decode cJ0_charAt_5068e 21 = .ok (.invokestatic 498, 3) := by decide +kernel
theorem dJ0_charAt_5068e_24 : decode cJ0_charAt_5068e 24 = .ok (.ireturn, 1) := by decide +kernel
theorem dJ0_coder_7d493_0 : decode cJ0_coder_7d493 0 = .ok (.getstatic 38, 3) := by decide +kernel
theorem dJ0_coder_7d493_3 : decode cJ0_coder_7d493 3 = .ok (.ifCond .eq 10, 3) := by decide +kernel
theorem dJ0_coder_7d493_6 : decode cJ0_coder_7d493 6 = .ok (.aload_n 0, 1) := by decide +kernel
theorem dJ0_coder_7d493_7 : decode cJ0_coder_7d493 7 = .ok (.getfield 15, 3) := by decide +kernel
theorem dJ0_coder_7d493_10 : decode cJ0_coder_7d493 10 = .ok (.goto 4, 3) := by decide +kernel
theorem dJ0_coder_7d493_13 : decode cJ0_coder_7d493 13 = .ok (.iconst 1, 1) := by decide +kernel
theorem dJ0_coder_7d493_14 : decode cJ0_coder_7d493 14 = .ok (.ireturn, 1) := by decide +kernel
theorem dJ0_isLatin1_aae02_0 : decode cJ0_isLatin1_aae02 0 = .ok (.getstatic 38, 3) := by decide +kernel
theorem dJ0_isLatin1_aae02_3 : decode cJ0_isLatin1_aae02 3 = .ok (.ifCond .eq 14, 3) := by decide +kernel
theorem dJ0_isLatin1_aae02_6 : decode cJ0_isLatin1_aae02 6 = .ok (.aload_n 0, 1) := by decide +kernel
theorem dJ0_isLatin1_aae02_7 : decode cJ0_isLatin1_aae02 7 = .ok (.getfield 15, 3) := by decide +kernel
theorem dJ0_isLatin1_aae02_10 : decode cJ0_isLatin1_aae02 10 = .ok (.ifCond .ne 7, 3) := by decide +kernel
theorem dJ0_isLatin1_aae02_13 : decode cJ0_isLatin1_aae02 13 = .ok (.iconst 1, 1) := by decide +kernel
theorem dJ0_isLatin1_aae02_14 : decode cJ0_isLatin1_aae02 14 = .ok (.goto 4, 3) := by decide +kernel
theorem dJ0_isLatin1_aae02_17 : decode cJ0_isLatin1_aae02 17 = .ok (.iconst 0, 1) := by decide +kernel
theorem dJ0_isLatin1_aae02_18 : decode cJ0_isLatin1_aae02 18 = .ok (.ireturn, 1) := by decide +kernel
theorem dJ0_checkIndex_df160_0 : decode cJ0_checkIndex_df160 0 = .ok (.iload_n 0, 1) := by decide +kernel
theorem dJ0_checkIndex_df160_1 : decode cJ0_checkIndex_df160 1 = .ok (.iload_n 1, 1) := by decide +kernel
theorem dJ0_checkIndex_df160_2 : decode cJ0_checkIndex_df160 2 = .ok (.getstatic 1053, 3) := by decide +kernel
theorem dJ0_checkIndex_df160_5 : decode cJ0_checkIndex_df160 5 = .ok (.invokestatic 1059, 3) := by decide +kernel
theorem dJ0_checkIndex_df160_8 : decode cJ0_checkIndex_df160 8 = .ok (.pop, 1) := by decide +kernel
theorem dJ0_checkIndex_df160_9 : decode cJ0_checkIndex_df160 9 = .ok (.return_, 1) := by decide +kernel
theorem dJ1_charAt_3b067_0 : decode cJ1_charAt_3b067 0 = .ok (.iload_n 1, 1) := by decide +kernel
theorem dJ1_charAt_3b067_1 : decode cJ1_charAt_3b067 1 = .ok (.aload_n 0, 1) := by decide +kernel
theorem dJ1_charAt_3b067_2 : decode cJ1_charAt_3b067 2 = .ok (.arraylength, 1) := by decide +kernel
theorem dJ1_charAt_3b067_3 : decode cJ1_charAt_3b067 3 = .ok (.invokestatic 9, 3) := by decide +kernel
theorem dJ1_charAt_3b067_6 : decode cJ1_charAt_3b067 6 = .ok (.aload_n 0, 1) := by decide +kernel
theorem dJ1_charAt_3b067_7 : decode cJ1_charAt_3b067 7 = .ok (.iload_n 1, 1) := by decide +kernel
theorem dJ1_charAt_3b067_8 : decode cJ1_charAt_3b067 8 = .ok (.baload, 1) := by decide +kernel
theorem dJ1_charAt_3b067_9 : decode cJ1_charAt_3b067 9 = .ok (.sipush 255, 3) := by decide +kernel
theorem dJ1_charAt_3b067_12 : decode cJ1_charAt_3b067 12 = .ok (.iand, 1) := by decide +kernel
theorem dJ1_charAt_3b067_13 : decode cJ1_charAt_3b067 13 = .ok (.i2c, 1) := by decide +kernel
theorem dJ1_charAt_3b067_14 : decode cJ1_charAt_3b067 14 = .ok (.ireturn, 1) := by decide +kernel
theorem dJ3_checkIndex_8e157_0 : decode cJ3_checkIndex_8e157 0 = .ok (.iload_n 0, 1) := by decide +kernel
theorem dJ3_checkIndex_8e157_1 : decode cJ3_checkIndex_8e157 1 = .ok (.ifCond .lt 8, 3) := by decide +kernel
theorem dJ3_checkIndex_8e157_4 : decode cJ3_checkIndex_8e157 4 = .ok (.iload_n 0, 1) := by decide +kernel
theorem dJ3_checkIndex_8e157_5 : decode cJ3_checkIndex_8e157 5 = .ok (.iload_n 1, 1) := by decide +kernel
theorem dJ3_checkIndex_8e157_6 : decode cJ3_checkIndex_8e157 6 = .ok (.if_icmp .lt 10, 3) := by decide +kernel
theorem dJ3_checkIndex_8e157_9 : decode cJ3_checkIndex_8e157 9 = .ok (.aload_n 2, 1) := by decide +kernel
theorem dJ3_checkIndex_8e157_10 : decode cJ3_checkIndex_8e157 10 = .ok (.iload_n 0, 1) := by decide +kernel
theorem dJ3_checkIndex_8e157_11 : decode cJ3_checkIndex_8e157 11 = .ok (.iload_n 1, 1) := by decide +kernel
theorem dJ3_checkIndex_8e157_12 : decode cJ3_checkIndex_8e157 12 = .ok (.invokestatic 95, 3) := by decide +kernel
theorem dJ3_checkIndex_8e157_15 : decode cJ3_checkIndex_8e157 15 = .ok (.athrow, 1) := by decide +kernel
theorem dJ3_checkIndex_8e157_16 : decode cJ3_checkIndex_8e157 16 = .ok (.iload_n 0, 1) := by decide +kernel
theorem dJ3_checkIndex_8e157_17 : decode cJ3_checkIndex_8e157 17 = .ok (.ireturn, 1) := by decide +kernel

theorem wds_j : wq 214 (.fieldLink RJ0 9 "java/lang/String" "value" "[B") = true ∧ wq 215 (.methodLink RJ0 335 yJ0_coder_7d493) = true ∧ wq 216 (.instanceMethod yJ0_coder_7d493) = true ∧ wq 217 (.selects RJ0 yJ0_coder_7d493 yJ0_coder_7d493) = true ∧ wq 218 (.code yJ0_coder_7d493 cJ0_coder_7d493 1 (some .byte)) = true ∧ wq 219 (.fieldLink RJ0 38 "java/lang/String" "COMPACT_STRINGS" "Z") = true ∧ wq 220 (.fieldLink RJ0 15 "java/lang/String" "coder" "B") = true ∧
    wq 225 (.methodLink RJ0 492 yJ0_isLatin1_aae02) = true ∧ wq 226 (.instanceMethod yJ0_isLatin1_aae02) = true ∧ wq 227 (.selects RJ0 yJ0_isLatin1_aae02 yJ0_isLatin1_aae02) = true ∧ wq 228 (.code yJ0_isLatin1_aae02 cJ0_isLatin1_aae02 1 (some .boolean)) = true ∧ wq 229 (.methodLink RJ0 495 yJ1_charAt_3b067) = true ∧ wq 230 (.static yJ1_charAt_3b067) = true ∧ wq 231 (.initialized RJ1) = true ∧ wq 232 (.code yJ1_charAt_3b067 cJ1_charAt_3b067 2 (some .char)) = true ∧
    wq 233 (.methodLink RJ1 9 yJ0_checkIndex_df160) = true ∧ wq 234 (.static yJ0_checkIndex_df160) = true ∧ wq 235 (.code yJ0_checkIndex_df160 cJ0_checkIndex_df160 2 none) = true ∧ wq 236 (.fieldLink RJ0 1053 "jdk/internal/util/Preconditions" "SIOOBE_FORMATTER" "Ljava/util/function/BiFunction;") = true ∧ wq 237 (.methodLink RJ0 1059 yJ3_checkIndex_8e157) = true ∧ wq 238 (.static yJ3_checkIndex_8e157) = true ∧ wq 239 (.initialized RJ3) = true ∧ wq 240 (.code yJ3_checkIndex_8e157 cJ3_checkIndex_8e157 3 (some .int)) = true ∧ wq 212 (.initialized RJ0) = true := by decide +kernel
def jP (D : va_G) (lw : Nat) (ad : AD_) (cs : Nat → ClassId) (adV : Nat → Nat) (av : List Value) (O : Mem_) : Array Value → State → Prop := va_Pc av (fun U => va_P D vwCl (wo lw ad cs O) U.heap ∧ Ev D ad cs adV (Aw lw ad) U)
theorem st_len : ∀ i, i < 12 → (sln.getD i 0 = (sT.getD i []).length ∧ (sT.getD i []).length < 2 ^ 31) := by decide +kernel
theorem st_chr : ∀ i, i < 12 → ∀ j, j < 7 → ((((sT.getD i []).getD j 0) &&& 255).toUInt32 % 65536).toInt32 = (sT.getD i []).getD j 0 ∧ narrow .char (.int ((sT.getD i []).getD j 0)) = .int ((sT.getD i []).getD j 0) := by decide +kernel
theorem st_le7 : ∀ i, i < 12 → (sT.getD i []).length ≤ 7 := by decide +kernel
section JDK
variable {l : Launch} {rm : Room} {D : va_G} {lw : Nat} {ad : AD_} {cs : Nat → ClassId} {adV : Nat → Nat} {O : Mem_}
theorem jP_bl (av : List Value) : FrameBlind (jP D lw ad cs adV av O) := fun _ _ _ _ h => ⟨h.1, h.2.1, Ev.same rfl rfl h.2.2⟩
theorem jP_at {A : Nat → Prop} {s : State} {H : Heap} {locs : List Loc} (av : List Value) (E : Ev D ad cs adV A s) (hA : ∀ q, Aw lw ad q → A q) (hP : va_P D vwCl (wo lw ad cs O) H) (hS : va_S A s.heap H locs) :
    ∀ U : State, U.heap = H → s.WarmedH U.vm → jP D lw ad cs adV av O av.toArray U := by
  intro U hU hW
  exact ⟨rfl, by rw [hU]; exact hP, Ev.warm hW hU hS hA E⟩
theorem jk_met {y : MethodName} {cc : ByteArray} {maxL : Nat} {ret : Option FieldType} {av : List Value} {r : Rs_} (hpl : plainName y.cls = true) (hlen : (lg_sl av).length ≤ maxL)
    (body : ∀ (p : Program) (e : Env) (s : State) (m : MethodId) (args : Array Value) (below : List Frame) (meth : Method) (c : Code) (ls : Array Slot), p.tables.exec = Jvm.exec → c.code = cc → c.maxLocals = maxL → s.vm.findClass y.cls = some m.cls → (∀ w ∈ wsL_law, w.before args s = true) → meth.sig.returnType = ret → meth.locks = false → va_P D vwCl (wo lw ad cs O) s.heap → Ev D ad cs adV (Aw lw ad) s → lv_has ls maxL (lv_args 0 av) → W p l e rm s m args below meth c s.heap [] 0 0 (MQ below (mQc D lw ad cs ret r) args s 0 0 (Aw lw ad)) (F0 m 0 ls [])) :
    Met l y (.code y cc maxL ret :: wsL_law) rm (jP D lw ad cs adV av O) (mQc D lw ad cs ret r) 0 0 (Aw lw ad) := by
  refine Met.ofW (cc := cc) (maxL := maxL) (ret := ret) hpl rfl ?_
  intro p e s m args below meth c s₁ B hml hv
  obtain ⟨rfl, hP, E⟩ := hv
  have hts := atoms_spec (ws := .code y cc maxL ret :: wsL_law) B.pre
  have hl := lv_entry av (n := maxL) hlen
  rw [lg_entry_eq]
  generalize (lg_sl av ++ List.replicate (maxL - (lg_sl av).length) Slot.unset).toArray = ls at hl ⊢
  exact body p e s m av.toArray below meth c ls B.exec B.bytes hml (findClass_of_methodNamed B.named) (fun w hw => hts w (List.mem_cons_of_mem _ hw)) B.returns B.notSynchronized hP E hl
theorem jk_coder {i : Nat} (hi : i < 12) : Met l yJ0_coder_7d493 (.code yJ0_coder_7d493 cJ0_coder_7d493 1 (some .byte) :: wsL_law) rm (jP D lw ad cs adV [.ref (ad 9 i 0)] O) (mQc D lw ad cs (some .byte) (0, O)) 0 0 (Aw lw ad) := by
  refine jk_met (by decide +kernel) (Nat.le_of_ble_eq_true rfl) ?_
  intro p e s m args below meth c ls hx hb hml hown hts hr hlocks hP E hl
  have hS0 : va_S (Aw lw ad) s.heap s.heap [] := va_S.rf
  obtain ⟨w294, w295, w296, w297, w298, w299, w300, -⟩ := wds_j
  refine va_gets hx hb E.2.2.1 hS0 hown (hts _ (wq_at w299)) (fun _ h => h) dJ0_coder_7d493_0 ?_
  refine lv_if_eq (tgt := 13) hx hb dJ0_coder_7d493_3 rfl (fun q => absurd q (by decide)) (fun _ => ?_)
  refine lv_aload_n hx hb dJ0_coder_7d493_6 rfl (lv_at hl 0 rfl) ?_
  refine vk_getf hx hb (E.2.1.1 i hi).2.1 hS0 hown (hts _ (wq_at w300)) (fun _ h => h) dJ0_coder_7d493_7 ?_
  refine lv_goto (tgt := 14) hx hb dJ0_coder_7d493_10 rfl ?_
  exact W.zret (ty := .byte) hx hb hr rfl (fun t ht _ => ⟨⟨0, (), rfl, rfl, by show va_P D vwCl (wo lw ad cs O) t.heap; rw [ht]; exact hP⟩, hS0.F ht⟩) hS0.2.2 dJ0_coder_7d493_14 hlocks
theorem jk_lat {i : Nat} (hi : i < 12) : Met l yJ0_isLatin1_aae02 (.code yJ0_isLatin1_aae02 cJ0_isLatin1_aae02 1 (some .boolean) :: wsL_law) rm (jP D lw ad cs adV [.ref (ad 9 i 0)] O) (mQc D lw ad cs (some .boolean) (1, O)) 0 0 (Aw lw ad) := by
  refine jk_met (by decide +kernel) (Nat.le_of_ble_eq_true rfl) ?_
  intro p e s m args below meth c ls hx hb hml hown hts hr hlocks hP E hl
  have hS0 : va_S (Aw lw ad) s.heap s.heap [] := va_S.rf
  obtain ⟨w294, w295, w296, w297, w298, w299, w300, -⟩ := wds_j
  refine va_gets hx hb E.2.2.1 hS0 hown (hts _ (wq_at w299)) (fun _ h => h) dJ0_isLatin1_aae02_0 ?_
  refine lv_if_eq (tgt := 17) hx hb dJ0_isLatin1_aae02_3 rfl (fun q => absurd q (by decide)) (fun _ => ?_)
  refine lv_aload_n hx hb dJ0_isLatin1_aae02_6 rfl (lv_at hl 0 rfl) ?_
  refine vk_getf hx hb (E.2.1.1 i hi).2.1 hS0 hown (hts _ (wq_at w300)) (fun _ h => h) dJ0_isLatin1_aae02_7 ?_
  refine lv_if_ne (tgt := 17) hx hb dJ0_isLatin1_aae02_10 rfl (fun q => absurd rfl q) (fun _ => ?_)
  refine lv_iconst (v := 1) hx hb dJ0_isLatin1_aae02_13 rfl ?_
  refine lv_goto (tgt := 18) hx hb dJ0_isLatin1_aae02_14 rfl ?_
  exact W.zret (ty := .boolean) hx hb hr rfl (fun t ht _ => ⟨⟨1, (), rfl, rfl, by show va_P D vwCl (wo lw ad cs O) t.heap; rw [ht]; exact hP⟩, hS0.F ht⟩) hS0.2.2 dJ0_isLatin1_aae02_18 hlocks
theorem jk_pre {k n : Int32} {v : Value} (hv : v.category = 1) (h0 : ¬ k < 0) (h1 : k < n) : Met l yJ3_checkIndex_8e157 (.code yJ3_checkIndex_8e157 cJ3_checkIndex_8e157 3 (some .int) :: wsL_law) rm (jP D lw ad cs adV [.int k, .int n, v] O) (mQc D lw ad cs (some .int) (k, O)) 0 0 (Aw lw ad) := by
  refine jk_met (by decide +kernel) (by cases v <;> first | exact Nat.le_of_ble_eq_true rfl | exact absurd hv (by intro q; cases q)) ?_
  intro p e s m args below meth c ls hx hb hml hown hts hr hlocks hP E hl
  have hS0 : va_S (Aw lw ad) s.heap s.heap [] := va_S.rf
  refine lv_iload_n hx hb dJ3_checkIndex_8e157_0 rfl (lv_at hl 0 rfl) ?_
  refine lv_if_lt (tgt := 9) hx hb dJ3_checkIndex_8e157_1 rfl (fun q => absurd q h0) (fun _ => ?_)
  refine lv_iload_n hx hb dJ3_checkIndex_8e157_4 rfl (lv_at hl 0 rfl) ?_
  refine lv_iload_n hx hb dJ3_checkIndex_8e157_5 rfl (lv_at hl 1 rfl) ?_
  refine lv_icmp_lt (tgt := 16) hx hb dJ3_checkIndex_8e157_6 rfl (fun _ => ?_) (fun q => absurd h1 q)
  refine lv_iload_n hx hb dJ3_checkIndex_8e157_16 rfl (lv_at hl 0 rfl) ?_
  exact W.iret hx hb hr (fun t ht _ => ⟨⟨k, (), rfl, rfl, by show va_P D vwCl (wo lw ad cs O) t.heap; rw [ht]; exact hP⟩, hS0.F ht⟩) hS0.2.2 dJ3_checkIndex_8e157_17 hlocks
theorem jk_len (hAw : Inj_ lw ad (Aw lw ad)) (hR : 2 ≤ rm.frames ∧ 60 ≤ rm.locals ∧ rm.cells = 0 ∧ rm.slots = 0) {i : Nat} (hi : i < 12) : Met l yJ0_length_8abf5 (.code yJ0_length_8abf5 cJ0_length_8abf5 1 (some .int) :: wsL_law) rm (jP D lw ad cs adV [.ref (ad 9 i 0)] O) (mQc D lw ad cs (some .int) (nI (sT.getD i []).length, O)) 0 0 (Aw lw ad) := by
  refine jk_met (by decide +kernel) (Nat.le_of_ble_eq_true rfl) ?_
  intro p e s m args below meth c ls hx hb hml hown hts hr hlocks hP E hl
  have hS0 : va_S (Aw lw ad) s.heap s.heap [] := va_S.rf
  obtain ⟨w294, w295, w296, w297, w298, w299, w300, wR⟩ := wds_j
  have w292 := wR.2.2.2.2.2.2.2.2.2.2.2.2.2.2.2.2
  refine lv_aload_n hx hb dJ0_length_8abf5_0 rfl (lv_at hl 0 rfl) ?_
  refine vk_getf hx hb (E.2.1.1 i hi).2.2.1 hS0 hown (hts _ (wq_at w294)) (fun _ h => h) dJ0_length_8abf5_1 ?_
  refine va_tlen (v := nI (sT.getD i []).length) hx hb (E.2.1.1 i hi).2.2.2 va_S.rf (by rw [(st_len i hi).1]; rfl) dJ0_length_8abf5_4 ?_
  refine lv_aload_n hx hb dJ0_length_8abf5_5 rfl (lv_at hl 0 rfl) ?_
  have S : CallFix p m c cJ0_length_8abf5 1 s args wsL_law RJ0 := ⟨hx, hb, hml, hown, hts⟩
  have hpre : PreV s s.heap RJ0 (ad 9 i 0) (jP D lw ad cs adV [.ref (ad 9 i 0)] O) [] := ⟨jP_bl _, vk_recv (i := i) (adK := fun i => ad 9 i 0) E.2.1 hi hS0, jP_at [.ref (ad 9 i 0)] E (fun _ h => h) hP hS0⟩
  refine va_calli (va_runV (rm := { frames := 0, cells := 0, slots := 0, locals := 0 }) (ws := .code yJ0_coder_7d493 cJ0_coder_7d493 1 (some .byte) :: wsL_law) (n := 0) (C := RJ0) (index := 335) (rest := [.int (nI (sT.getD i []).length)]) S (jk_coder hi) (cwV 0 hts (ws_goodIn (fun w hw0 => ?_)) rfl rfl rfl (by decide +kernel) ⟨by show 0 + 1 ≤ rm.frames; omega, by show 8 + (1 + 11) + 0 ≤ rm.locals; omega⟩) hpre rfl rfl hl.1 rfl (Nat.le_of_ble_eq_true rfl) dJ0_length_8abf5_6 ⟨Nat.zero_le _, Nat.zero_le _⟩) va_S.rf (fun q _ h => h) (fun q h => h) (fun v u t1 H1 locs1 e1 _ hv hB _ _ hS1 => ?_)
  · rcases List.mem_append.mp hw0 with hw0 | hw0
    · simp only [List.mem_cons, List.not_mem_nil, or_false] at hw0
      rcases hw0 with rfl | rfl | rfl | rfl
      · exact wq_at w295
      · exact wq_at w296
      · exact wq_at w297
      · exact wq_at w292
    · rcases List.mem_cons.mp hw0 with rfl | hw0
      · exact wq_at w298
      · exact hw0
  · subst e1
    subst hv
    refine lv_ishr hx hb dJ0_length_8abf5_9 ?_
    have h0 : nI (sT.getD i []).length >>> ((0 : Int32) &&& 31) = nI (sT.getD i []).length := by
      have h9 : ∀ i, i < 12 → nI (sT.getD i []).length >>> ((0 : Int32) &&& 31) = nI (sT.getD i []).length := by decide +kernel
      exact h9 i hi
    refine W.eq (g2 := F0 m 10 ls [.int (nI (sT.getD i []).length)]) (congrArg (fun x => F0 m 10 ls [Value.int x]) h0) ?_
    exact W.iret hx hb hr (fun t ht _ => ⟨⟨_, (), rfl, rfl, by show va_P D vwCl (wo lw ad cs O) t.heap; rw [ht]; exact hB⟩, hS1.F ht⟩) hS1.2.2 dJ0_length_8abf5_10 hlocks
theorem jk_chk (hR : 1 ≤ rm.frames ∧ 30 ≤ rm.locals ∧ rm.cells = 0 ∧ rm.slots = 0) {k n : Int32} (h0 : ¬ k < 0) (h1 : k < n) : Met l yJ0_checkIndex_df160 (.code yJ0_checkIndex_df160 cJ0_checkIndex_df160 2 none :: wsL_law) rm (jP D lw ad cs adV [.int k, .int n] O) (mQc D lw ad cs none (0, O)) 0 0 (Aw lw ad) := by
  refine jk_met (by decide +kernel) (Nat.le_of_ble_eq_true rfl) ?_
  intro p e s m args below meth c ls hx hb hml hown hts hr hlocks hP E hl
  have hS0 : va_S (Aw lw ad) s.heap s.heap [] := va_S.rf
  obtain ⟨-, -, -, -, -, -, -, -, -, -, -, -, -, -, -, -, -, -, w316, w317, w318, w319, w320, w292⟩ := wds_j
  refine lv_iload_n hx hb dJ0_checkIndex_df160_0 rfl (lv_at hl 0 rfl) ?_
  refine lv_iload_n hx hb dJ0_checkIndex_df160_1 rfl (lv_at hl 1 rfl) ?_
  have S : CallFix p m c cJ0_checkIndex_df160 2 s args wsL_law RJ0 := ⟨hx, hb, hml, hown, hts⟩
  have main : ∀ v : Value, v.category = 1 → va_Z RJ3 "SIOOBE_FORMATTER" "Ljava/util/function/BiFunction;" v (Aw lw ad) s s.heap → W p l e rm s m args below meth c s.heap [] 0 0 (MQ below (mQc D lw ad cs none (0, O)) args s 0 0 (Aw lw ad)) (F0 m 2 ls [.int n, .int k]) := by
    intro v hc hZ
    refine va_gets hx hb hZ hS0 hown (hts _ (wq_at w316)) (fun _ h => h) dJ0_checkIndex_df160_2 ?_
    have hpre : PreS s s.heap (jP D lw ad cs adV [.int k, .int n, v] O) [.int k, .int n, v] := ⟨jP_bl _, jP_at _ E (fun _ h => h) hP hS0⟩
    refine va_calli (va_runS (rm := { frames := 0, cells := 0, slots := 0, locals := 0 }) (ws := .code yJ3_checkIndex_8e157 cJ3_checkIndex_8e157 3 (some .int) :: wsL_law) (n := 3) (index := 1059) (rest := []) S (jk_pre hc h0 h1) (va_cwS 3 hts (ws_goodIn (fun w hw0 => ?_)) rfl rfl rfl (by decide +kernel) ⟨by show 0 + 1 ≤ rm.frames; omega, by show 8 + (3 + 11) + 0 ≤ rm.locals; omega⟩) hpre rfl rfl hl.1 rfl (Nat.le_of_ble_eq_true rfl) dJ0_checkIndex_df160_5 ⟨Nat.zero_le _, Nat.zero_le _⟩) va_S.rf (fun q _ h => h) (fun q h => h) (fun w u t1 H1 locs1 e1 _ hw hB _ _ hS1 => ?_)
    · rcases List.mem_append.mp hw0 with hw0 | hw0
      · simp only [List.mem_cons, List.not_mem_nil, or_false] at hw0
        rcases hw0 with rfl | rfl | rfl
        · exact wq_at w317
        · exact wq_at w318
        · exact wq_at w319
      · rcases List.mem_cons.mp hw0 with rfl | hw0
        · exact wq_at w320
        · exact hw0
    · subst e1
      subst hw
      refine lv_pop hx hb dJ0_checkIndex_df160_8 rfl ?_
      exact W.vret hx hb hr (fun t ht _ => ⟨⟨(), rfl, trivial, by show va_P D vwCl (wo lw ad cs O) t.heap; rw [ht]; exact hB⟩, hS1.F ht⟩) hS1.2.2 dJ0_checkIndex_df160_9 hlocks
  rcases E.2.2.2.1 with hZ | ⟨t, hZ⟩
  · exact main _ rfl hZ
  · exact main _ rfl hZ
theorem ib_nI {k : Int32} {n : Nat} (hn : n < 2 ^ 31) (h : ib k n = true) : ¬ k < 0 ∧ k < nI n := by
  have h1 := ib_lt h
  simp only [ib, Bool.and_eq_true, decide_eq_true_eq] at h
  obtain ⟨j, hj, rfl⟩ := nI_of h.1
  rw [nI_clamp hj] at h1
  exact ⟨h.1, nI_lt h1 hn⟩
theorem jk_latAt (hR : 2 ≤ rm.frames ∧ 60 ≤ rm.locals ∧ rm.cells = 0 ∧ rm.slots = 0) {i : Nat} {k : Int32} (hi : i < 12) (hk : ib k (sT.getD i []).length = true) : Met l yJ1_charAt_3b067 (.code yJ1_charAt_3b067 cJ1_charAt_3b067 2 (some .char) :: wsL_law) rm (jP D lw ad cs adV [.ref (adV i), .int k] O) (mQc D lw ad cs (some .char) ((sT.getD i []).getD k.toNatClampNeg 0, O)) 0 0 (Aw lw ad) := by
  refine jk_met (by decide +kernel) (Nat.le_of_ble_eq_true rfl) ?_
  intro p e s m args below meth c ls hx hb hml hown hts hr hlocks hP E hl
  have hS0 : va_S (Aw lw ad) s.heap s.heap [] := va_S.rf
  obtain ⟨-, -, -, -, -, -, -, -, -, -, -, -, -, -, -, w313, w314, w315, w316, w317, w318, w319, w320, w292⟩ := wds_j
  refine lv_iload_n hx hb dJ1_charAt_3b067_0 rfl (lv_at hl 1 rfl) ?_
  refine lv_aload_n hx hb dJ1_charAt_3b067_1 rfl (lv_at hl 0 rfl) ?_
  refine va_tlen (v := nI (sT.getD i []).length) hx hb (E.2.1.1 i hi).2.2.2 va_S.rf (by rw [(st_len i hi).1]; rfl) dJ1_charAt_3b067_2 ?_
  obtain ⟨h0, h1⟩ := ib_nI (st_len i hi).2 hk
  have S : CallFix p m c cJ1_charAt_3b067 2 s args wsL_law RJ1 := ⟨hx, hb, hml, hown, hts⟩
  have hpre : PreS s s.heap (jP D lw ad cs adV [.int k, .int (nI (sT.getD i []).length)] O) [.int k, .int (nI (sT.getD i []).length)] := ⟨jP_bl _, jP_at _ E (fun _ h => h) hP hS0⟩
  refine va_callv (va_runS (rm := { frames := 1, cells := 0, slots := 0, locals := 30 }) (ws := .code yJ0_checkIndex_df160 cJ0_checkIndex_df160 2 none :: wsL_law) (n := 2) (index := 9) (rest := []) S (jk_chk ⟨by decide, by decide, rfl, rfl⟩ h0 h1) (va_cwS 2 hts (ws_goodIn (fun w hw0 => ?_)) rfl rfl rfl (by decide +kernel) ⟨by show 1 + 1 ≤ rm.frames; omega, by show 8 + (2 + 11) + 30 ≤ rm.locals; omega⟩) hpre rfl rfl hl.1 rfl (Nat.le_of_ble_eq_true rfl) dJ1_charAt_3b067_3 ⟨Nat.zero_le _, Nat.zero_le _⟩) va_S.rf (fun q _ h => h) (fun q h => h) (fun u t1 H1 locs1 e1 _ _ hB _ _ hS1 => ?_)
  · rcases List.mem_append.mp hw0 with hw0 | hw0
    · simp only [List.mem_cons, List.not_mem_nil, or_false] at hw0
      rcases hw0 with rfl | rfl | rfl
      · exact wq_at w313
      · exact wq_at w314
      · exact wq_at w292
    · rcases List.mem_cons.mp hw0 with rfl | hw0
      · exact wq_at w315
      · exact hw0
  · subst e1
    refine lv_aload_n hx hb dJ1_charAt_3b067_6 rfl (lv_at hl 0 rfl) ?_
    refine lv_iload_n hx hb dJ1_charAt_3b067_7 rfl (lv_at hl 1 rfl) ?_
    have hkl := ib_lt hk
    have hch := st_chr i hi k.toNatClampNeg (Nat.lt_of_lt_of_le hkl (st_le7 i hi))
    refine va_tb hx hb (E.2.1.1 i hi).2.2.2 hS1 (by have := ib_in hk; rw [← (st_len i hi).1] at this; exact this) rfl dJ1_charAt_3b067_8 ?_
    refine lv_sipush (v := 255) hx hb dJ1_charAt_3b067_9 rfl ?_
    refine lv_iand hx hb dJ1_charAt_3b067_12 ?_
    refine lv_i2c hx hb dJ1_charAt_3b067_13 hch.1 ?_
    exact W.zret (ty := .char) hx hb hr hch.2 (fun t ht _ => ⟨⟨_, (), rfl, rfl, by show va_P D vwCl (wo lw ad cs O) t.heap; rw [ht]; exact hB⟩, hS1.F ht⟩) hS1.2.2 dJ1_charAt_3b067_14 hlocks
theorem jk_at (hR : 3 ≤ rm.frames ∧ 100 ≤ rm.locals ∧ rm.cells = 0 ∧ rm.slots = 0) {i : Nat} {k : Int32} (hi : i < 12) (hk : ib k (sT.getD i []).length = true) : Met l yJ0_charAt_5068e (.code yJ0_charAt_5068e cJ0_charAt_5068e 2 (some .char) :: wsL_law) rm (jP D lw ad cs adV [.ref (ad 9 i 0), .int k] O) (mQc D lw ad cs (some .char) ((sT.getD i []).getD k.toNatClampNeg 0, O)) 0 0 (Aw lw ad) := by
  refine jk_met (by decide +kernel) (Nat.le_of_ble_eq_true rfl) ?_
  intro p e s m args below meth c ls hx hb hml hown hts hr hlocks hP E hl
  have hS0 : va_S (Aw lw ad) s.heap s.heap [] := va_S.rf
  obtain ⟨w294, -, -, -, -, -, -, w305, w306, w307, w308, w309, w310, w311, w312, -, -, -, -, -, -, -, -, w292⟩ := wds_j
  refine lv_aload_n hx hb dJ0_charAt_5068e_0 rfl (lv_at hl 0 rfl) ?_
  have S : CallFix p m c cJ0_charAt_5068e 2 s args wsL_law RJ0 := ⟨hx, hb, hml, hown, hts⟩
  have hpre : PreV s s.heap RJ0 (ad 9 i 0) (jP D lw ad cs adV [.ref (ad 9 i 0)] O) [] := ⟨jP_bl _, vk_recv (i := i) (adK := fun i => ad 9 i 0) E.2.1 hi hS0, jP_at [.ref (ad 9 i 0)] E (fun _ h => h) hP hS0⟩
  refine va_calli (va_runV (rm := { frames := 0, cells := 0, slots := 0, locals := 0 }) (ws := .code yJ0_isLatin1_aae02 cJ0_isLatin1_aae02 1 (some .boolean) :: wsL_law) (n := 0) (C := RJ0) (index := 492) (rest := []) S (jk_lat hi) (cwV 0 hts (ws_goodIn (fun w hw0 => ?_)) rfl rfl rfl (by decide +kernel) ⟨by show 0 + 1 ≤ rm.frames; omega, by show 8 + (1 + 11) + 0 ≤ rm.locals; omega⟩) hpre rfl rfl hl.1 rfl (Nat.le_of_ble_eq_true rfl) dJ0_charAt_5068e_1 ⟨Nat.zero_le _, Nat.zero_le _⟩) va_S.rf (fun q _ h => h) (fun q h => h) (fun v u t1 H1 locs1 e1 hal hv hB _ _ hS1 => ?_)
  · rcases List.mem_append.mp hw0 with hw0 | hw0
    · simp only [List.mem_cons, List.not_mem_nil, or_false] at hw0
      rcases hw0 with rfl | rfl | rfl | rfl
      · exact wq_at w305
      · exact wq_at w306
      · exact wq_at w307
      · exact wq_at w292
    · rcases List.mem_cons.mp hw0 with rfl | hw0
      · exact wq_at w308
      · exact hw0
  · subst e1
    subst hv
    refine lv_if_eq (tgt := 16) hx hb dJ0_charAt_5068e_4 rfl (fun q => absurd (show (1 : Int32) = 0 from q) (by decide)) (fun _ => ?_)
    refine lv_aload_n hx hb dJ0_charAt_5068e_7 rfl (lv_at hl 0 rfl) ?_
    refine vk_getf hx hb (E.2.1.1 i hi).2.2.1 hS1 hown (hts _ (wq_at w294)) (fun _ h => h) dJ0_charAt_5068e_8 ?_
    refine lv_iload_n hx hb dJ0_charAt_5068e_11 rfl (lv_at hl 1 rfl) ?_
    have hpre2 : PreS s t1.heap (jP D lw ad cs adV [.ref (adV i), .int k] O) [.ref (adV i), .int k] := ⟨jP_bl _, jP_at _ E (fun _ h => h) hB hS1⟩
    refine va_calli (va_runS (rm := { frames := 2, cells := 0, slots := 0, locals := 60 }) (ws := .code yJ1_charAt_3b067 cJ1_charAt_3b067 2 (some .char) :: wsL_law) (n := 2) (index := 495) (rest := []) S (jk_latAt ⟨by decide, by decide, rfl, rfl⟩ hi hk) (va_cwS 2 hts (ws_goodIn (fun w hw0 => ?_)) rfl rfl rfl (by decide +kernel) ⟨by show 2 + 1 ≤ rm.frames; omega, by show 8 + (2 + 11) + 60 ≤ rm.locals; omega⟩) hpre2 rfl rfl hl.1 rfl (Nat.le_of_ble_eq_true rfl) dJ0_charAt_5068e_12 ⟨Nat.zero_le _, Nat.zero_le _⟩) hS1 (fun q _ h => h) (fun q h => h) (fun v u t2 H2 locs2 e2 _ hv hB2 _ _ hS2 => ?_)
    · rcases List.mem_append.mp hw0 with hw0 | hw0
      · simp only [List.mem_cons, List.not_mem_nil, or_false] at hw0
        rcases hw0 with rfl | rfl | rfl
        · exact wq_at w309
        · exact wq_at w310
        · exact wq_at w311
      · rcases List.mem_cons.mp hw0 with rfl | hw0
        · exact wq_at w312
        · exact hw0
    · subst e2
      subst hv
      have hch := st_chr i hi k.toNatClampNeg (Nat.lt_of_lt_of_le (ib_lt hk) (st_le7 i hi))
      exact W.zret (ty := .char) hx hb hr hch.2 (fun t ht _ => ⟨⟨_, (), rfl, rfl, by show va_P D vwCl (wo lw ad cs O) t.heap; rw [ht]; exact hB2⟩, hS2.F ht⟩) hS2.2.2 dJ0_charAt_5068e_15 hlocks
theorem jdk_ok (hAw : Inj_ lw ad (Aw lw ad)) (d : Nat) : JdkOK l (rmD d) D lw ad cs adV := by
  refine ⟨fun i O hi => jk_len hAw ⟨?_, ?_, rfl, rfl⟩ hi, fun i k O hi hk => jk_at ⟨?_, ?_, rfl, rfl⟩ hi hk⟩
  · show 2 ≤ d + 3
    omega
  · show 60 ≤ 40 * d + 100
    omega
  · show 3 ≤ d + 3
    omega
  · show 100 ≤ 40 * d + 100
    omega
end JDK
end
section
/-! CONSTRUCTORS: new rows of numbers into final fields. -/
def Ec (D : va_G) (cs : Nat → ClassId) (s : State) : Prop := va_K D vwCl (tyL cs) s ∧ va_AO RX1 s ∧ va_AO RX0 s ∧ va_AOA .int s
theorem Ec.moved {D : va_G} {cs : Nat → ClassId} {s U : State} (hvm : s.vm.Alike U.vm) (h : Ec D cs s) : Ec D cs U := ⟨va_K.moved hvm h.1, va_AO.moved hvm h.2.1, va_AO.moved hvm h.2.2.1, va_AOA.moved hvm h.2.2.2⟩
/-- length of the push, length of the row, its kind, its field, the pool's entry, the place of its word -/
abbrev Bk_ : Type := Nat × Nat × Nat × Nat × Nat × Nat
def ckD (cb : ByteArray) (pc : Nat) (ins : Instr) (len : Nat) : Bool := match decode cb pc with
  | .ok (i, k) => decide (i = ins ∧ k = len)
  | _ => false
theorem ckD_s {cb : ByteArray} {pc len : Nat} {ins : Instr} (h : ckD cb pc ins len = true) : decode cb pc = .ok (ins, len) := by
  unfold ckD at h
  split at h
  · rename_i i k hq
    obtain ⟨rfl, rfl⟩ := of_decide_eq_true h
    exact hq
  · cases h
def ckP (cb : ByteArray) (pc L N : Nat) : Bool := match decode cb pc with
  | .ok (.iconst n, k) => decide (k = 1 ∧ L = 1 ∧ Int32.ofInt n = nI N)
  | .ok (.bipush n, k) => decide (k = 2 ∧ L = 2 ∧ (Int8.ofInt n).toInt32 = nI N)
  | .ok (.sipush n, k) => decide (k = 3 ∧ L = 3 ∧ (Int16.ofInt n).toInt32 = nI N)
  | _ => false
def tz (z : Nat) : FieldType := if z = 0 then .int else .boolean
def atz (z : Nat) : ArrayType := if z = 0 then .int else .boolean
def ckB (own : String) (cb : ByteArray) (ci pc : Nat) (b : Bk_) : Bool := match b with
  | (L, N, z, k, i, w) => ckD cb pc (.aload_n 0) 1 && ckP cb (pc + 1) L N && ckD cb (pc + 1 + L) (.newarray (atz z)) 2 && ckD cb (pc + 1 + L + 2) (.putfield i) 3 &&
      decide (z < 2 ∧ N ≤ 1000 ∧ k < (rcl ci).2.2 ∧ (fdw ci k).2.2.2 = true ∧ (fdw ci k).1 = own ∧ parseFieldDescriptor (fdw ci k).2.2.1 = some (.array (tz z))) && wq w (.fieldLink own i (fdw ci k).1 (fdw ci k).2.1 (fdw ci k).2.2.1)
def ckBs (own : String) (cb : ByteArray) (ci : Nat) : List Bk_ → Nat → Bool
  | [], _ => true
  | b :: bs, pc => ckB own cb ci pc b && ckBs own cb ci bs (pc + 6 + b.1)
def bkq (cs : Nat → ClassId) : List Bk_ → List Nat → va_W
  | b :: bs, q :: qs => (q, .inl (cs b.2.2.1, b.2.1, .inl fun _ => 0)) :: bkq cs bs qs
  | _, _ => []
def bkf : List Bk_ → List Nat → List Value → List Value
  | b :: bs, q :: qs, fs => bkf bs qs (fs.set b.2.2.2.1 (.ref q))
  | _, _, fs => fs
def bkpc : List Bk_ → Nat → Nat
  | [], pc => pc
  | b :: bs, pc => bkpc bs (pc + 6 + b.1)
def bksl : List Bk_ → Nat
  | [] => 0
  | b :: bs => b.2.1 + bksl bs
def dfv (c : Nat) : List Value := (List.range (rcl c).2.2).map fun k => if fkd c k = 0 then .int 0 else .null
def mZ : Mem_ := fun _ _ _ _ => 0
/-- the cells of one object and of its own rows, at the addresses f -/
def sl (cs : Nat → ClassId) (c : Nat) (O : Mem_) (f : Nat → Nat) : va_W := (prts c).map fun p => (f p, cel (fun _ _ p => f p) cs O (c, 0, p))
theorem kArr {cs : Nat → ClassId} {z : Nat} (hz : z < 2) : (tyL cs)[z]? = some (cs z, tz z) := by
  match z, hz with
  | 0, _ => rfl
  | 1, _ => rfl
section CTOR
variable {p : Program} {l : Launch} {e : Env} {R : Room} {s : State} {m : MethodId} {args : Array Value} {below : List Frame} {meth : Method} {c : Code} {cells slots : Nat} {Q : State → Prop}
variable {D : va_G} {cs : Nat → ClassId} {A : Nat → Prop} {own : String} {cb : ByteArray} {ml pc : Nat} {H H0 : Heap} {locs : List Loc} {ls : Array Slot} {rest : List Value} {ws : va_W}
theorem psh {L N : Nat} (hx : p.tables.exec = Jvm.exec) (hb : c.code = cb) (h : ckP cb pc L N = true) (k : W p l e R s m args below meth c H locs cells slots Q (F0 m (pc + L) ls (.int (nI N) :: rest))) : W p l e R s m args below meth c H locs cells slots Q (F0 m pc ls rest) := by
  unfold ckP at h
  split at h
  · rename_i n q hq
    obtain ⟨rfl, rfl, hv⟩ := of_decide_eq_true h
    exact lv_iconst hx hb hq hv k
  · rename_i n q hq
    obtain ⟨rfl, rfl, hv⟩ := of_decide_eq_true h
    exact lv_bipush hx hb hq hv k
  · rename_i n q hq
    obtain ⟨rfl, rfl, hv⟩ := of_decide_eq_true h
    exact lv_sipush hx hb hq hv k
  · cases h
theorem nw_arr {z N : Nat} (hx : p.tables.exec = Jvm.exec) (hb : c.code = cb) (hz : z < 2) (harr : (Cond.arrayClass (tz z)).before args s = true) (hK : va_K D vwCl (tyL cs) s) (hP : va_P D vwCl ws H) (hD : va_D A ws) (hS : va_S A H0 H locs) (hA : ∀ q, H0.size ≤ q → A q) (hN : N ≤ 1000) (hcells : cells + 1 ≤ R.cells) (hslots : slots + N ≤ R.slots) (hdg : decode cb pc = .ok (.newarray (atz z), 2))
    (kk : ∀ (q : Nat) (H1 : Heap), va_P D vwCl (ws ++ [(q, .inl (cs z, N, .inl fun _ => 0))]) H1 → va_D A (ws ++ [(q, .inl (cs z, N, .inl fun _ => 0))]) → va_S A H0 H1 locs → W p l e R s m args below meth c H1 locs (cells + 1) (slots + N) Q (F0 m (pc + 2) ls (.ref q :: rest))) :
    W p l e R s m args below meth c H locs cells slots Q (F0 m pc ls (.int (nI N) :: rest)) := by
  match z, hz with
  | 0, _ =>
    refine va_newa (atype := .int) (ty := .int) (N' := N) (a0 := (N, .inl fun _ => 0)) hx hb harr rfl hK hP hD hS hA (fun cA => rfl) (nI_pos (by omega)) (nI_clamp (by omega)) (by show N * 4 ≤ 536870912; omega) hcells hslots hdg (fun q cA H1 hK1 hP1 hD1 hS1 => ?_)
    have h1 : s.vm.findClass ("[" ++ FieldType.int.toString) = some cA := (hK1.2 6 (cA, .int) rfl).2
    have h2 : s.vm.findClass ("[" ++ FieldType.int.toString) = some (cs 0) := (hK.2 0 (cs 0, .int) rfl).2
    obtain rfl : cA = cs 0 := Option.some.inj (h1.symm.trans h2)
    exact kk q H1 hP1 hD1 hS1
  | 1, _ =>
    refine va_newa (atype := .boolean) (ty := .boolean) (N' := N) (a0 := (N, .inl fun _ => 0)) hx hb harr rfl hK hP hD hS hA (fun cA => rfl) (nI_pos (by omega)) (nI_clamp (by omega)) (by show N * 1 ≤ 536870912; omega) hcells hslots hdg (fun q cA H1 hK1 hP1 hD1 hS1 => ?_)
    have h1 : s.vm.findClass ("[" ++ FieldType.boolean.toString) = some cA := (hK1.2 6 (cA, .boolean) rfl).2
    have h2 : s.vm.findClass ("[" ++ FieldType.boolean.toString) = some (cs 1) := (hK.2 1 (cs 1, .boolean) rfl).2
    obtain rfl : cA = cs 1 := Option.some.inj (h1.symm.trans h2)
    exact kk q H1 hP1 hD1 hS1
theorem wds_n : wq 3 (.arrayClass .int) = true ∧ wq 58 (.arrayClass .boolean) = true ∧ wq 8 (.instanceMethod objectInit) = true ∧ wq 9 (.code objectInit ⟨#[0xb1]⟩ 1 none) = true := by decide +kernel
theorem bks_run {ci o : Nat} (F : Fr p s m args c own cb ml) (hK : va_K D vwCl (tyL cs) s) (hci : ci < 7) (hin2 : meth.name = "<init>") (hA : ∀ q, s.heap.size ≤ q → A q) (hl0 : ls[0]? = some (.val (.ref o))) :
    ∀ (bs : List Bk_) (pc : Nat) (fs : List Value) (arrs : va_W) (cells slots : Nat) (H : Heap) (locs : List Loc), ckBs own cb ci bs pc = true → fs.length = (rcl ci).2.2 → va_P D vwCl ((o, .inr (ci, fs)) :: arrs) H → va_D A ((o, .inr (ci, fs)) :: arrs) → va_S A s.heap H locs → cells + bs.length ≤ R.cells → slots + bksl bs ≤ R.slots →
    (∀ (qs : List Nat) (H1 : Heap) (locs1 : List Loc), qs.length = bs.length → va_P D vwCl ((o, .inr (ci, bkf bs qs fs)) :: (arrs ++ bkq cs bs qs)) H1 → va_D A ((o, .inr (ci, bkf bs qs fs)) :: (arrs ++ bkq cs bs qs)) → va_S A s.heap H1 locs1 → W p l e R s m args below meth c H1 locs1 (cells + bs.length) (slots + bksl bs) Q (F0 m (bkpc bs pc) ls [])) →
    W p l e R s m args below meth c H locs cells slots Q (F0 m pc ls []) := by
  intro bs
  induction bs with
  | nil =>
    intro pc fs arrs cells slots H locs _ _ hP hD hS _ _ kk
    have h0 : arrs ++ bkq cs [] [] = arrs := List.append_nil _
    exact kk [] H locs rfl (by rw [h0]; exact hP) (by rw [h0]; exact hD) hS
  | cons b bs ih =>
    intro pc fs arrs cells slots H locs hck hfs hP hD hS hcells hslots kk
    obtain ⟨L, N, z, k, i, w⟩ := b
    obtain ⟨hx, hb, hml, hown, hts⟩ := id F
    have hck : (ckB own cb ci pc (L, N, z, k, i, w) && ckBs own cb ci bs (pc + 6 + L)) = true := hck
    rw [Bool.and_eq_true] at hck
    obtain ⟨h1, h2⟩ := hck
    simp only [ckB, Bool.and_eq_true, decide_eq_true_eq] at h1
    obtain ⟨⟨⟨⟨⟨g1, g2⟩, g3⟩, g4⟩, hz, hN, hk, hfin, hdecl, hty⟩, hw⟩ := h1
    have hc1 : cells + (bs.length + 1) ≤ R.cells := hcells
    have hs1 : slots + (N + bksl bs) ≤ R.slots := hslots
    obtain ⟨w44, w62, -⟩ := wds_n
    refine lv_aload_n hx hb (ckD_s g1) rfl hl0 ?_
    refine psh hx hb g2 ?_
    refine nw_arr hx hb hz ?_ hK hP hD hS hA hN (by omega) (by omega) (ckD_s g3) (fun q H1 hP1 hD1 hS1 => ?_)
    · match z, hz with
      | 0, _ => exact hts _ (wq_at w44)
      | 1, _ => exact hts _ (wq_at w62)
    obtain ⟨ty0, hty0⟩ := rcl_ty hci
    refine va_putF (rest := []) (T := (rcl ci).2.1) hx hb hts (rcl_in hci) ty0 hty0 (rcl_nm hci) hown hK hP1 hD1 hS1 0 rfl (rcl_mem hci) k hk (hts _ (wq_at hw)) (fun _ h9 => h9) hfin hin2 hdecl hty rfl rfl (by rw [hfs]; exact hk) (ckD_s g4) (fun H2 locs2 hP2 hD2 hS2 => ?_)
    refine W.eq (g2 := F0 m (pc + 6 + L) ls []) (by rw [show pc + 1 + L + 2 + 3 = pc + 6 + L by omega]) ?_
    refine ih (pc + 6 + L) (fs.set k (.ref q)) (arrs ++ [((q, .inl (cs z, N, .inl fun _ => 0)) : Nat × va_E)]) (cells + 1) (slots + N) H2 locs2 h2 (by rw [List.length_set]; exact hfs) hP2 hD2 hS2 (by omega) (by omega) (fun qs H3 locs3 hq hP3 hD3 hS3 => ?_)
    have e1 : cells + 1 + bs.length = cells + (((L, N, z, k, i, w) : Bk_) :: bs).length := by rw [List.length_cons]; omega
    have e2 : slots + N + bksl bs = slots + bksl ((L, N, z, k, i, w) :: bs) := by show _ = slots + (N + bksl bs); omega
    rw [e1, e2]
    rw [List.append_assoc] at hP3 hD3
    exact kk (q :: qs) H3 locs3 (by simp [hq]) hP3 hD3 hS3
def iPc (D : va_G) (cs : Nat → ClassId) (o sz ci : Nat) : Array Value → State → Prop := va_Pc [.ref o] (fun U => U.heap.size = sz ∧ va_P D vwCl [(o, .inr (ci, dfv ci))] U.heap ∧ o < sz ∧ Ec D cs U)
def iQg {S : Type} (adr : S → Nat) (pst : S → Prop) (w : S → va_W) (D : va_G) (o sz ci : Nat) : Array Value → State → Outcome → State → Prop := va_Qv (S := S) (fun u => adr u = o ∧ pst u) (fun u t => va_P D vwCl (w u) t.heap ∧ va_D (va_A [(o, .inr (ci, dfv ci))] sz) (w u)) (va_A [(o, .inr (ci, dfv ci))] sz)
def iQc (D : va_G) (cs : Nat → ClassId) (o sz ci : Nat) (O : Mem_) : Array Value → State → Outcome → State → Prop := iQg (S := Nat → Nat) (fun f => f 0) (fun _ => True) (fun f => sl cs ci O f) D o sz ci
theorem iPc_bl {o sz ci : Nat} : FrameBlind (iPc D cs o sz ci) := fun _ _ _ _ h => ⟨h.1, h.2.1, h.2.2.1, h.2.2.2.1, Ec.moved (Vm.Alike.refl _) h.2.2.2.2⟩
theorem met_ini {y : MethodName} {ci i w o sz : Nat} {bs : List Bk_} (hpl : plainName y.cls = true) (hcl : y.cls = own) (hnm : y.name = "<init>") (hci : ci < 7) (hdl : (dfv ci).length = (rcl ci).2.2) (h0 : ckD cb 0 (.aload_n 0) 1 = true) (h1 : ckD cb 1 (.invokespecial i) 3 = true) (hw : wq w (.methodLink own i objectInit) = true) (hck : ckBs own cb ci bs 4 = true) (hend : ckD cb (bkpc bs 4) .return_ 1 = true)
    (post : ∀ qs : List Nat, qs.length = bs.length → ∃ f : Nat → Nat, f 0 = o ∧ (o, .inr (ci, bkf bs qs (dfv ci))) :: bkq cs bs qs = sl cs ci mZ f) :
    Met l y (.code y cb 1 none :: wsL_law) { frames := 1, cells := bs.length, slots := bksl bs, locals := 40 } (iPc D cs o sz ci) (iQc D cs o sz ci mZ) bs.length (bksl bs) (va_A [(o, .inr (ci, dfv ci))] sz) := by
  subst hcl
  refine Met.ofW (cc := cb) (maxL := 1) (ret := none) hpl rfl ?_
  intro p e s m args below meth c s₁ B hml hv
  obtain ⟨rfl, hsz, hP, ho, hE⟩ := hv
  have hts0 := atoms_spec (ws := .code y cb 1 none :: wsL_law) B.pre
  have hts : ∀ w ∈ wsL_law, w.before #[Value.ref o] s = true := fun w hw => hts0 w (List.mem_cons_of_mem _ hw)
  have hown : s.vm.findClass y.cls = some m.cls := findClass_of_methodNamed B.named
  have hin : meth.name = "<init>" := (name_of_methodNamed B.named B.method).1.trans hnm
  have F : Fr p s m #[Value.ref o] c y.cls cb 1 := ⟨B.exec, B.bytes, hml, hown, hts⟩
  obtain ⟨-, -, w11, w12⟩ := wds_n
  subst hsz
  have hD : va_D (va_A [(o, .inr (ci, dfv ci))] s.heap.size) [(o, .inr (ci, dfv ci))] := by
    refine ⟨fun i j p q hi hj _ => ?_, fun k q hk => va_A.in hk⟩
    have hi := (List.getElem?_eq_some_iff.mp hi).1
    have hj := (List.getElem?_eq_some_iff.mp hj).1
    simp at hi hj
    omega
  have hl := lv_entry [Value.ref o] (n := 1) (Nat.le_of_ble_eq_true rfl)
  rw [lg_entry_eq]
  generalize (lg_sl [Value.ref o] ++ List.replicate (1 - (lg_sl [Value.ref o]).length) Slot.unset).toArray = ls at hl ⊢
  have hl0 : ls[0]? = some (.val (.ref o)) := lv_at hl 0 rfl
  refine lv_aload_n B.exec B.bytes (ckD_s h0) rfl hl0 ?_
  refine W.objInit B.exec B.bytes hown (hts _ (wq_at hw)) (hts _ (wq_at w11)) (hts _ (wq_at w12)) rfl (by rw [hml]; exact hl.1) rfl (ckD_s h1) (Nat.le_refl _) (Nat.le_of_ble_eq_true rfl) ?_
  refine W.eq (g2 := F0 m 4 ls []) rfl ?_
  refine bks_run (A := va_A [(o, .inr (ci, dfv ci))] s.heap.size) (arrs := []) F hE.1 hci hin (fun q hq => Or.inr hq) hl0 bs 4 (dfv ci) 0 0 s.heap [] hck hdl hP hD va_S.rf (by show 0 + bs.length ≤ bs.length; omega) (by show 0 + bksl bs ≤ bksl bs; omega) (fun qs H1 locs1 hq hP1 hD1 hS1 => ?_)
  obtain ⟨f, hf0, hf⟩ := post qs hq
  rw [List.nil_append, hf] at hP1 hD1
  have e1 : 0 + bs.length = bs.length := Nat.zero_add _
  have e2 : 0 + bksl bs = bksl bs := Nat.zero_add _
  rw [e1, e2]
  exact W.vret B.exec B.bytes B.returns (fun t ht _ => ⟨⟨f, rfl, ⟨hf0, trivial⟩, by rw [ht]; exact hP1, hD1⟩, hS1.F ht⟩) hS1.2.2 (ckD_s hend) B.notSynchronized
end CTOR
end
section
/-! CONSTRUCTORS of Minds, Scene, Tape, Told; the rows of the others. -/
def bk0 : List Bk_ := [(2, 24, 0, 1, 9, 75), (2, 24, 0, 2, 15, 76), (2, 6, 0, 3, 18, 77), (2, 6, 0, 4, 21, 78), (1, 4, 0, 5, 24, 79)]
def bk1 : List Bk_ := [(2, 24, 0, 1, 9, 66), (2, 24, 0, 2, 15, 67), (2, 24, 1, 3, 18, 68), (2, 12, 0, 6, 22, 69), (2, 12, 1, 7, 25, 70)]
def bk3 : List Bk_ := [(3, 400, 0, 0, 9, 41)]
def bk4 : List Bk_ := [(2, 8, 0, 4, 9, 46), (2, 8, 0, 5, 15, 47), (2, 12, 0, 6, 18, 48), (2, 12, 0, 7, 21, 49), (2, 12, 0, 8, 24, 50), (2, 12, 0, 9, 27, 51), (2, 12, 0, 10, 30, 52), (2, 12, 0, 11, 33, 53), (1, 4, 0, 12, 36, 54), (2, 6, 0, 13, 39, 55), (2, 6, 0, 14, 42, 56), (2, 6, 0, 15, 45, 57), (2, 6, 1, 16, 48, 59), (2, 6, 0, 17, 52, 60), (2, 6, 0, 18, 55, 61)]
def bk5 : List Bk_ := [(1, 5, 0, 0, 9, 84), (1, 4, 0, 2, 15, 85), (1, 4, 0, 4, 18, 86)]
def bk2 : List Bk_ := [(1, 4, 0, 0, 9, 95), (1, 4, 0, 1, 15, 96)]
set_option maxRecDepth 20000 in
theorem mio0 {l : Launch} {D : va_G} {cs : Nat → ClassId} {o sz : Nat} : Met l yX0_init (.code yX0_init cX0_init 1 none :: wsL_law) { frames := 1, cells := 5, slots := 64, locals := 40 } (iPc D cs o sz 0) (iQc D cs o sz 0 mZ) 5 64 (va_A [(o, .inr (0, dfv 0))] sz) := by
  refine met_ini (own := RX0) (bs := bk0) (i := 3) (w := 74) (by decide +kernel) rfl rfl (by decide) (by decide +kernel) (by decide +kernel) (by decide +kernel) (by decide +kernel) (by decide +kernel) (by decide +kernel) ?_
  intro qs hq
  match qs, hq with
  | [q0, q1, q2, q3, q4], _ => exact ⟨fun p => [o, 0, q0, q1, q2, q3, q4].getD p 0, rfl, rfl⟩
set_option maxRecDepth 20000 in
theorem mi1 {l : Launch} {D : va_G} {cs : Nat → ClassId} {o sz : Nat} : Met l yX1_init (.code yX1_init cX1_init 1 none :: wsL_law) { frames := 1, cells := 5, slots := 96, locals := 40 } (iPc D cs o sz 1) (iQc D cs o sz 1 mZ) 5 96 (va_A [(o, .inr (1, dfv 1))] sz) := by
  refine met_ini (own := RX1) (bs := bk1) (i := 3) (w := 65) (by decide +kernel) rfl rfl (by decide) (by decide +kernel) (by decide +kernel) (by decide +kernel) (by decide +kernel) (by decide +kernel) (by decide +kernel) ?_
  intro qs hq
  match qs, hq with
  | [q0, q1, q2, q3, q4], _ => exact ⟨fun p => [o, 0, q0, q1, q2, 0, 0, q3, q4, 0].getD p 0, rfl, rfl⟩
set_option maxRecDepth 20000 in
theorem mi3 {l : Launch} {D : va_G} {cs : Nat → ClassId} {o sz : Nat} : Met l yX3_init (.code yX3_init cX3_init 1 none :: wsL_law) { frames := 1, cells := 1, slots := 400, locals := 40 } (iPc D cs o sz 3) (iQc D cs o sz 3 mZ) 1 400 (va_A [(o, .inr (3, dfv 3))] sz) := by
  refine met_ini (own := RX3) (bs := bk3) (i := 3) (w := 40) (by decide +kernel) rfl rfl (by decide) (by decide +kernel) (by decide +kernel) (by decide +kernel) (by decide +kernel) (by decide +kernel) (by decide +kernel) ?_
  intro qs hq
  match qs, hq with
  | [q0], _ => exact ⟨fun p => [o, q0, 0, 0, 0, 0, 0, 0, 0, 0].getD p 0, rfl, rfl⟩
set_option maxRecDepth 20000 in
theorem mi4 {l : Launch} {D : va_G} {cs : Nat → ClassId} {o sz : Nat} : Met l yX4_init (.code yX4_init cX4_init 1 none :: wsL_law) { frames := 1, cells := 15, slots := 128, locals := 40 } (iPc D cs o sz 4) (iQc D cs o sz 4 mZ) 15 128 (va_A [(o, .inr (4, dfv 4))] sz) := by
  refine met_ini (own := RX4) (bs := bk4) (i := 3) (w := 45) (by decide +kernel) rfl rfl (by decide) (by decide +kernel) (by decide +kernel) (by decide +kernel) (by decide +kernel) (by decide +kernel) (by decide +kernel) ?_
  intro qs hq
  match qs, hq with
  | [q0, q1, q2, q3, q4, q5, q6, q7, q8, q9, q10, q11, q12, q13, q14], _ => exact ⟨fun p => [o, 0, 0, 0, 0, q0, q1, q2, q3, q4, q5, q6, q7, q8, q9, q10, q11, q12, q13, q14].getD p 0, rfl, rfl⟩
end
section
/-! CONSTRUCTORS: new objects, rows of objects. -/
theorem vaA1 {q x sz : Nat} {e : va_E} (h : va_A [(q, e)] sz x) : x = q ∨ sz ≤ x := by
  rcases h with ⟨k, e', h⟩ | h
  · cases k with
    | zero => cases h; exact Or.inl rfl
    | succ k => simp at h
  · exact Or.inr h
theorem join1 {D : va_G} {A : Nat → Prop} {ws w1 : va_W} {H H1 : Heap} {q : Nat} {e0 : va_E} (hP : va_P D vwCl (ws ++ [(q, e0)]) H) (hD : va_D A (ws ++ [(q, e0)])) (hk : ∀ x, x < H.size → ¬ va_A [(q, e0)] H.size x → H1[x]? = H[x]?) (hA : ∀ x, H.size ≤ x → A x) (hP1 : va_P D vwCl w1 H1) (hD1 : va_D (va_A [(q, e0)] H.size) w1) : va_P D vwCl (ws ++ w1) H1 ∧ va_D A (ws ++ w1) := by
  have hin : ∀ (k : Nat) (x : Nat × va_E), ws[k]? = some x → (ws ++ [(q, e0)])[k]? = some x := fun k x hx => by
    rw [List.getElem?_append_left (List.getElem?_eq_some_iff.mp hx).1]; exact hx
  have hlast : (ws ++ [(q, e0)])[ws.length]? = some (q, e0) := by rw [List.getElem?_append_right (Nat.le_refl _), Nat.sub_self]; rfl
  have hws : ∀ (k : Nat) (x : Nat × va_E), ws[k]? = some x → x.1 < H.size ∧ x.1 ≠ q := fun k x hx => by
    refine ⟨(hP k x (hin k x hx)).lt, fun he => ?_⟩
    have := hD.1 k ws.length x (q, e0) (hin k x hx) hlast he
    have := (List.getElem?_eq_some_iff.mp hx).1
    omega
  have hnA : ∀ (k : Nat) (x : Nat × va_E), ws[k]? = some x → ¬ va_A [(q, e0)] H.size x.1 := fun k x hx h => by
    have h1 := hws k x hx
    rcases vaA1 h with h2 | h2
    · exact h1.2 h2
    · omega
  refine ⟨va_P.app (fun k x hx => (hP k x (hin k x hx)).kept (hk _ (hws k x hx).1 (hnA k x hx))) hP1, fun i j x y hi hj he => ?_, fun k x hx => ?_⟩
  · by_cases h1 : i < ws.length <;> by_cases h2 : j < ws.length
    · rw [List.getElem?_append_left h1] at hi
      rw [List.getElem?_append_left h2] at hj
      exact hD.1 i j x y (hin _ _ hi) (hin _ _ hj) he
    · rw [List.getElem?_append_left h1] at hi
      rw [List.getElem?_append_right (by omega)] at hj
      exact absurd (he ▸ hD1.2 _ _ hj) (hnA _ _ hi)
    · rw [List.getElem?_append_right (by omega)] at hi
      rw [List.getElem?_append_left h2] at hj
      exact absurd (he ▸ hD1.2 _ _ hi) (hnA _ _ hj)
    · rw [List.getElem?_append_right (by omega)] at hi hj
      have := hD1.1 _ _ _ _ hi hj he
      omega
  · by_cases h1 : k < ws.length
    · rw [List.getElem?_append_left h1] at hx
      exact hD.2 k x (hin _ _ hx)
    · rw [List.getElem?_append_right (by omega)] at hx
      rcases vaA1 (hD1.2 _ _ hx) with h2 | h2
      · rw [h2]; exact hD.2 _ _ hlast
      · exact hA _ h2
theorem dfs_ok {ci : Nat} (h : ci < 7) : ∃ ty : Nat → FieldType, (∀ k, k < (rcl ci).2.2 → parseFieldDescriptor ((rcl ci).2.1 k).2.2.1 = some (ty k)) ∧ ∀ j, j < (rcl ci).2.2 → defaultValue (ty j) = vp_V (dfv ci) j := by
  match ci, h with
  | 0, _ => exact ⟨_, tyX0_ok, by decide +kernel⟩
  | 1, _ => exact ⟨_, tyX1_ok, by decide +kernel⟩
  | 2, _ => exact ⟨_, tyX2_ok, by decide +kernel⟩
  | 3, _ => exact ⟨_, tyX3_ok, by decide +kernel⟩
  | 4, _ => exact ⟨_, tyX4_ok, by decide +kernel⟩
  | 5, _ => exact ⟨_, tyX5_ok, by decide +kernel⟩
  | 6, _ => exact ⟨_, tyX6_ok, by decide +kernel⟩
def nwOK (R : Room) (own : String) (ci N i1 i2 maxL : Nat) (y : MethodName) (yc : ByteArray) (rm : Room) (mc ms : Nat) : Prop :=
  ci < 7 ∧ (rcl ci).2.2 = N ∧ rm.cells = mc ∧ rm.slots = ms ∧ Cond.classLink own i1 (rcl ci).1 ∈ wsL_law ∧ Cond.instantiable (rcl ci).1 N ∈ wsL_law ∧ Cond.initialized (rcl ci).1 ∈ wsL_law ∧ y.cls = (rcl ci).1 ∧ (y.cls ≠ "java/lang/invoke/MethodHandle" ∧ y.cls ≠ "java/lang/invoke/VarHandle") ∧ y.name = "<init>" ∧ (parseMethodDescriptor y.desc).map (fun d => d.parameters.length) = some 0 ∧
  Cond.methodLink own i2 y ∈ wsL_law ∧ Cond.instanceMethod y ∈ wsL_law ∧ Cond.code y yc maxL none ∈ wsL_law ∧ (rm.frames + 1 ≤ R.frames ∧ 8 + (maxL + 11) + rm.locals ≤ R.locals)
section OBJS
variable {p : Program} {l : Launch} {e : Env} {R : Room} {s : State} {m : MethodId} {args : Array Value} {below : List Frame} {meth : Method} {c : Code} {cells slots : Nat} {Q : State → Prop}
variable {D : va_G} {cs : Nat → ClassId} {A : Nat → Prop} {own : String} {cb : ByteArray} {ml pc : Nat} {H : Heap} {locs : List Loc} {ls : Array Slot} {rest : List Value} {ws : va_W}
/-- new C; dup; invokespecial <init> -/
theorem new_obj {S : Type} {adr : S → Nat} {pst : S → Prop} {w : S → va_W} {ci N i1 i2 maxL mc ms : Nat} {y : MethodName} {yc : ByteArray} {rm : Room} (F : Fr p s m args c own cb ml) (E : Ec D cs s) (hA : ∀ q, s.heap.size ≤ q → A q) (hlsz : ls.size = ml)
    (hM : ∀ o sz : Nat, Met l y (.code y yc maxL none :: wsL_law) rm (iPc D cs o sz ci) (iQg adr pst w D o sz ci) mc ms (va_A [(o, .inr (ci, dfv ci))] sz)) (nw : nwOK R own ci N i1 i2 maxL y yc rm mc ms)
    (hP : va_P D vwCl ws H) (hD : va_D A ws) (hS : va_S A s.heap H locs) (hcells : cells + 1 + mc ≤ R.cells) (hslots : slots + N + ms ≤ R.slots)
    (hd0 : decode cb pc = .ok (.new i1, 3)) (hd1 : decode cb (pc + 3) = .ok (.dup, 1)) (hd2 : decode cb (pc + 4) = .ok (.invokespecial i2, 3)) (hfew : (rest.map fun v => v.category).sum ≤ 7)
    (kk : ∀ (u : S) (H1 : Heap) (locs1 : List Loc), pst u → va_P D vwCl (ws ++ w u) H1 → va_D A (ws ++ w u) → va_S A s.heap H1 locs1 → W p l e R s m args below meth c H1 locs1 (cells + 1 + mc) (slots + N + ms) Q (F0 m (pc + 7) ls (.ref (adr u) :: rest))) :
    W p l e R s m args below meth c H locs cells slots Q (F0 m pc ls rest) := by
  obtain ⟨hci, rfl, hrc, hrs, hcl, hinst, hini, hyc, hym, hyn, hyd, hlink, hinm, hcode, hR⟩ := nw
  obtain ⟨hx, hb, hml, hown, hts⟩ := id F
  obtain ⟨ty, hty, hdf⟩ := dfs_ok hci
  refine va_new (T := (rcl ci).2.1) hx hb hts (rcl_in hci) ty hty hown (hts _ hcl) (hts _ hinst) (hts _ hini) E.1 hP hD hS hA (rcl_mem hci) hdf (by omega) (by omega) hd0 (fun q H1 hP1 hD1 hS1 => ?_)
  refine lv_dup hx hb hd1 rfl ?_
  have hlt : q < H1.size := (hP1 ws.length (q, .inr (ci, dfv ci)) (by rw [List.getElem?_append_right (Nat.le_refl _), Nat.sub_self]; rfl)).lt
  have hqA : A q := hD1.2 ws.length (q, .inr (ci, dfv ci)) (by rw [List.getElem?_append_right (Nat.le_refl _), Nat.sub_self]; rfl)
  have hAA : ∀ x, H1.size ≤ x → A x := fun x hx9 => hA x (Nat.le_trans hS1.1 hx9)
  have hAq : ∀ x, va_A [(q, .inr (ci, dfv ci))] H1.size x → A x := fun x hx9 => by
    rcases vaA1 hx9 with rfl | h9
    · exact hqA
    · exact hAA x h9
  have hpre : PreS s H1 (iPc D cs q H1.size ci) (.ref q :: []) := ⟨iPc_bl, fun U hU hW => ⟨rfl, by rw [hU], by
    rw [hU]
    intro k x hx9
    cases k with
    | zero => cases hx9; exact hP1 ws.length _ (by rw [List.getElem?_append_right (Nat.le_refl _), Nat.sub_self]; rfl)
    | succ k => simp at hx9, hlt, Ec.moved hW.alike E⟩⟩
  refine va_callv (a := (Value.ref q :: []).toArray) (va_runI (As := []) (n := 0) (rest := .ref q :: rest) F (hM q H1.size) (cwI 0 hts (ws_goodIn (fun w9 hw9 => ?_)) rfl hrc hrs (hts _ (by rw [hyc]; exact hini)) (hts _ hlink) (hts _ hinm) hyn ⟨hym.1, hym.2, hyd⟩ hR) hpre rfl rfl hlsz rfl ?_ hd2 ⟨by omega, by omega⟩) hS1 (fun x _ hx9 => hAq x hx9) hAq (fun u t H2 locs2 e2 _ hu hB _ hk hS2 => ?_)
  · rcases List.mem_cons.mp hw9 with rfl | hw9
    · exact hcode
    · exact hw9
  · show 2 * 0 + (1 + (rest.map fun v => v.category).sum) ≤ 8
    omega
  · subst e2
    obtain ⟨hu, hpst⟩ := hu
    obtain ⟨hP2, hD2⟩ := join1 hP1 hD1 hk hAA hB.1 hB.2
    have := kk u t.heap locs2 hpst hP2 hD2 hS2
    rw [hu] at this
    exact this
theorem anew_row {C : String} {i N t0 : Nat} (F : Fr p s m args c own cb ml) (E : Ec D cs s) (hA : ∀ q, s.heap.size ≤ q → A q) (hcl : Cond.classLink own i C ∈ wsL_law) (hAO : va_AO C s) (ht : (tyL cs)[t0]? = some (cs t0, .object C)) (hN : N ≤ 1000)
    (hP : va_P D vwCl ws H) (hD : va_D A ws) (hS : va_S A s.heap H locs) (hcells : cells + 1 ≤ R.cells) (hslots : slots + N ≤ R.slots) (hd : decode cb pc = .ok (.anewarray i, 3))
    (kk : ∀ (q : Nat) (H1 : Heap), va_P D vwCl (ws ++ [(q, .inl (cs t0, N, .inr (.inr (.inr (.inr fun _ => none)))))]) H1 → va_D A (ws ++ [(q, .inl (cs t0, N, .inr (.inr (.inr (.inr fun _ => none)))))]) → va_S A s.heap H1 locs → W p l e R s m args below meth c H1 locs (cells + 1) (slots + N) Q (F0 m (pc + 3) ls (.ref q :: rest))) :
    W p l e R s m args below meth c H locs cells slots Q (F0 m pc ls (.int (nI N) :: rest)) := by
  obtain ⟨hx, hb, hml, hown, hts⟩ := id F
  refine va_newq (C := C) (N' := N) hx hb hown (hts _ hcl) hAO E.1 hP hD hS hA (nI_pos (by omega)) (nI_clamp (by omega)) (by omega) hcells hslots hd (fun q cA H1 hK1 hP1 hD1 hS1 => ?_)
  have hlen : (tyL cs).length = 6 := rfl
  obtain ⟨kA, comp, -, -, -, h1⟩ := (hK1.2 6 (cA, .object C) rfl).2
  obtain ⟨kB, compB, -, -, -, h2⟩ := (E.1.2 t0 (cs t0, .object C) ht).2
  obtain rfl : cA = cs t0 := Option.some.inj (h1.symm.trans h2)
  exact kk q H1 hP1 hD1 hS1
def refsOf (gs : List (Nat → Nat)) : Nat → Option Nat := fun j => gs[j]?.map fun f => f 0
theorem refs_app (gs : List (Nat → Nat)) (f : Nat → Nat) : va_up (refsOf gs) gs.length (some (f 0)) = refsOf (gs ++ [f]) := by
  funext j
  unfold va_up refsOf
  by_cases h : j = gs.length
  · subst h
    simp
  · rw [if_neg h]
    by_cases h2 : j < gs.length
    · rw [List.getElem?_append_left h2]
    · rw [List.getElem?_eq_none (by omega), List.getElem?_eq_none (by rw [List.length_append]; show _ + 1 ≤ j; omega)]
end OBJS
end
section
/-! CONSTRUCTORS: a field gets a new object, a new row; a row is filled with new objects. -/
theorem get_mid {α : Type} (P : List α) (x : α) (Y : List α) : (P ++ x :: Y)[P.length]? = some x := by
  rw [List.getElem?_append_right (Nat.le_refl _), Nat.sub_self]
  rfl
theorem set_mid {α : Type} : ∀ (P : List α) (x y : α) (Y : List α), (P ++ x :: Y).set P.length y = P ++ y :: Y
  | [], _, _, _ => rfl
  | p :: P, x, y, Y => congrArg (fun l => p :: l) (set_mid P x y Y)
section FILL
variable {p : Program} {l : Launch} {e : Env} {R : Room} {s : State} {m : MethodId} {args : Array Value} {below : List Frame} {meth : Method} {c : Code} {cells slots : Nat} {Q : State → Prop}
variable {D : va_G} {cs : Nat → ClassId} {A : Nat → Prop} {own : String} {cb : ByteArray} {ml pc : Nat} {H : Heap} {locs : List Loc} {ls : Array Slot} {rest : List Value} {ws X : va_W}
theorem put_any {c0 k i o : Nat} {fs : List Value} {ty : FieldType} {v : Value} (F : Fr p s m args c own cb ml) (hK : va_K D vwCl (tyL cs) s) (hc0 : c0 < 7) (hk : k < (rcl c0).2.2) (hw : Cond.fieldLink own i (fdw c0 k).1 (fdw c0 k).2.1 (fdw c0 k).2.2.1 ∈ wsL_law) (hin2 : meth.name = "<init>") (hdecl : (fdw c0 k).1 = own) (hty : parseFieldDescriptor (fdw c0 k).2.2.1 = some ty) (hn : narrow ty v = v) (hfit : fits ty v = true) (hfs : fs.length = (rcl c0).2.2)
    (hP : va_P D vwCl ((o, .inr (c0, fs)) :: X) H) (hD : va_D A ((o, .inr (c0, fs)) :: X)) (hS : va_S A s.heap H locs) (hd : decode cb pc = .ok (.putfield i, 3))
    (kk : ∀ (H1 : Heap) (locs1 : List Loc), va_P D vwCl ((o, .inr (c0, fs.set k v)) :: X) H1 → va_D A ((o, .inr (c0, fs.set k v)) :: X) → va_S A s.heap H1 locs1 → W p l e R s m args below meth c H1 locs1 cells slots Q (F0 m (pc + 3) ls rest)) :
    W p l e R s m args below meth c H locs cells slots Q (F0 m pc ls (v :: .ref o :: rest)) := by
  obtain ⟨hx, hb, hml, hown, hts⟩ := id F
  obtain ⟨ty0, hty0⟩ := rcl_ty hc0
  cases hfin : (fdw c0 k).2.2.2 with
  | true => exact va_putF (T := (rcl c0).2.1) hx hb hts (rcl_in hc0) ty0 hty0 (rcl_nm hc0) hown hK hP hD hS 0 rfl (rcl_mem hc0) k hk (hts _ hw) (fun _ h9 => h9) hfin hin2 hdecl hty hn hfit (by rw [hfs]; exact hk) hd (fun H1 locs1 h1 h2 h3 => kk H1 locs1 h1 h2 h3)
  | false => exact va_put (T := (rcl c0).2.1) hx hb hts (rcl_in hc0) ty0 hty0 (rcl_nm hc0) hown hK hP hD hS 0 rfl (rcl_mem hc0) k hk (hts _ hw) (fun _ h9 => h9) hfin hty hn hfit (by rw [hfs]; exact hk) hd (fun H1 locs1 h1 h2 h3 => kk H1 locs1 h1 h2 h3)
def fpOK (own : String) (c0 k i : Nat) (ty : FieldType) : Prop := c0 < 7 ∧ k < (rcl c0).2.2 ∧ Cond.fieldLink own i (fdw c0 k).1 (fdw c0 k).2.1 (fdw c0 k).2.2.1 ∈ wsL_law ∧ (fdw c0 k).1 = own ∧ parseFieldDescriptor (fdw c0 k).2.2.1 = some ty ∧ ∀ a : Nat, narrow ty (.ref a) = .ref a ∧ fits ty (.ref a) = true
theorem put_obj {S : Type} {adr : S → Nat} {pst : S → Prop} {w : S → va_W} {ci N i1 i2 maxL mc ms c0 k i3 o : Nat} {fs : List Value} {ty : FieldType} {y : MethodName} {yc : ByteArray} {rm : Room} (F : Fr p s m args c own cb ml) (E : Ec D cs s) (hA : ∀ q, s.heap.size ≤ q → A q) (hin2 : meth.name = "<init>") (hlsz : ls.size = ml) (hl0 : ls[0]? = some (.val (.ref o)))
    (hM : ∀ o sz : Nat, Met l y (.code y yc maxL none :: wsL_law) rm (iPc D cs o sz ci) (iQg adr pst w D o sz ci) mc ms (va_A [(o, .inr (ci, dfv ci))] sz)) (nw : nwOK R own ci N i1 i2 maxL y yc rm mc ms) (fp : fpOK own c0 k i3 ty) (hfs : fs.length = (rcl c0).2.2)
    (hP : va_P D vwCl ((o, .inr (c0, fs)) :: X) H) (hD : va_D A ((o, .inr (c0, fs)) :: X)) (hS : va_S A s.heap H locs) (hcells : cells + 1 + mc ≤ R.cells) (hslots : slots + N + ms ≤ R.slots)
    (hd : decode cb pc = .ok (.aload_n 0, 1)) (hd0 : decode cb (pc + 1) = .ok (.new i1, 3)) (hd1 : decode cb (pc + 1 + 3) = .ok (.dup, 1)) (hd2 : decode cb (pc + 1 + 4) = .ok (.invokespecial i2, 3)) (hd3 : decode cb (pc + 1 + 7) = .ok (.putfield i3, 3))
    (kk : ∀ (u : S) (H1 : Heap) (locs1 : List Loc), pst u → va_P D vwCl ((o, .inr (c0, fs.set k (.ref (adr u)))) :: (X ++ w u)) H1 → va_D A ((o, .inr (c0, fs.set k (.ref (adr u)))) :: (X ++ w u)) → va_S A s.heap H1 locs1 → W p l e R s m args below meth c H1 locs1 (cells + 1 + mc) (slots + N + ms) Q (F0 m (pc + 1 + 7 + 3) ls [])) :
    W p l e R s m args below meth c H locs cells slots Q (F0 m pc ls []) := by
  obtain ⟨hc0, hk, hw, hdecl, hty, href⟩ := fp
  refine lv_aload_n F.1 F.2.1 hd rfl hl0 ?_
  refine new_obj (adr := adr) (pst := pst) (w := w) (rest := [.ref o]) F E hA hlsz hM nw hP hD hS hcells hslots hd0 hd1 hd2 (Nat.le_of_ble_eq_true rfl) (fun u H1 locs1 hu hP1 hD1 hS1 => ?_)
  exact put_any F E.1 hc0 hk hw hin2 hdecl hty (href _).1 (href _).2 hfs hP1 hD1 hS1 hd3 (fun H2 locs2 hP2 hD2 hS2 => kk u H2 locs2 hu hP2 hD2 hS2)
theorem put_row {C : String} {L N t0 i1 c0 k i3 o : Nat} {fs : List Value} {ty : FieldType} (F : Fr p s m args c own cb ml) (E : Ec D cs s) (hA : ∀ q, s.heap.size ≤ q → A q) (hin2 : meth.name = "<init>") (hl0 : ls[0]? = some (.val (.ref o)))
    (hcl : Cond.classLink own i1 C ∈ wsL_law) (hAO : va_AO C s) (ht : (tyL cs)[t0]? = some (cs t0, .object C)) (hN : N ≤ 1000) (fp : fpOK own c0 k i3 ty) (hfs : fs.length = (rcl c0).2.2)
    (hP : va_P D vwCl ((o, .inr (c0, fs)) :: X) H) (hD : va_D A ((o, .inr (c0, fs)) :: X)) (hS : va_S A s.heap H locs) (hcells : cells + 1 ≤ R.cells) (hslots : slots + N ≤ R.slots)
    (hd : decode cb pc = .ok (.aload_n 0, 1)) (hp : ckP cb (pc + 1) L N = true) (hd1 : decode cb (pc + 1 + L) = .ok (.anewarray i1, 3)) (hd3 : decode cb (pc + 1 + L + 3) = .ok (.putfield i3, 3))
    (kk : ∀ (q : Nat) (H1 : Heap) (locs1 : List Loc), va_P D vwCl ((o, .inr (c0, fs.set k (.ref q))) :: (X ++ [(q, .inl (cs t0, N, .inr (.inr (.inr (.inr (refsOf []))))))])) H1 → va_D A ((o, .inr (c0, fs.set k (.ref q))) :: (X ++ [(q, .inl (cs t0, N, .inr (.inr (.inr (.inr (refsOf []))))))])) → va_S A s.heap H1 locs1 → W p l e R s m args below meth c H1 locs1 (cells + 1) (slots + N) Q (F0 m (pc + 1 + L + 3 + 3) ls [])) :
    W p l e R s m args below meth c H locs cells slots Q (F0 m pc ls []) := by
  obtain ⟨hc0, hk, hw, hdecl, hty, href⟩ := fp
  refine lv_aload_n F.1 F.2.1 hd rfl hl0 ?_
  refine psh F.1 F.2.1 hp ?_
  refine anew_row (C := C) F E hA hcl hAO ht hN hP hD hS hcells hslots hd1 (fun q H1 hP1 hD1 hS1 => ?_)
  have h0 : (fun _ => none : Nat → Option Nat) = refsOf [] := funext fun j => by simp [refsOf]
  rw [h0] at hP1 hD1
  exact put_any F E.1 hc0 hk hw hin2 hdecl hty (href _).1 (href _).2 hfs hP1 hD1 hS1 hd3 (fun H2 locs2 hP2 hD2 hS2 => kk q H2 locs2 hP2 hD2 hS2)
theorem fill_loop {o a c0 kf i0 i1 i2 h n t0 ci N maxL mc ms C1 S1 : Nat} {fs : List Value} {y : MethodName} {yc : ByteArray} {rm : Room} {P1 Y : va_W} {off : Int} (F : Fr p s m args c own cb ml) (E : Ec D cs s) (hA : ∀ q, s.heap.size ≤ q → A q) (hml1 : 1 < ml)
    (hc0 : c0 < 7) (hP0 : P1[0]? = some (o, .inr (c0, fs))) (hk : kf < (rcl c0).2.2) (hfl : Cond.fieldLink own i0 (fdw c0 kf).1 (fdw c0 kf).2.1 (fdw c0 kf).2.2.1 ∈ wsL_law) (hfv : fs[kf]? = some (.ref a))
    (hM : ∀ o sz : Nat, Met l y (.code y yc maxL none :: wsL_law) rm (iPc D cs o sz ci) (iQc D cs o sz ci mZ) mc ms (va_A [(o, .inr (ci, dfv ci))] sz)) (nw : nwOK R own ci N i1 i2 maxL y yc rm mc ms) (ht : (tyL cs)[t0]? = some (cs t0, .object (rcl ci).1)) (hn : n < 1000)
    (hhead : ∀ (i : Nat) (ls : Array Slot) (H : Heap) (locs : List Loc) (cells slots : Nat), i ≤ n → ls[1]? = some (.val (.int (nI i))) → (i < n → W p l e R s m args below meth c H locs cells slots Q (F0 m (h + 5) ls [])) → (i = n → W p l e R s m args below meth c H locs cells slots Q (F0 m (h + 24) ls [])) → W p l e R s m args below meth c H locs cells slots Q (F0 m h ls []))
    (d5 : decode cb (h + 5) = .ok (.aload_n 0, 1)) (d6 : decode cb (h + 5 + 1) = .ok (.getfield i0, 3)) (d9 : decode cb (h + 5 + 1 + 3) = .ok (.iload_n 1, 1)) (d10 : decode cb (h + 5 + 1 + 3 + 1) = .ok (.new i1, 3)) (d13 : decode cb (h + 5 + 1 + 3 + 1 + 3) = .ok (.dup, 1)) (d14 : decode cb (h + 5 + 1 + 3 + 1 + 4) = .ok (.invokespecial i2, 3)) (d17 : decode cb (h + 5 + 1 + 3 + 1 + 7) = .ok (.aastore, 1)) (d18 : decode cb (h + 5 + 1 + 3 + 1 + 7 + 1) = .ok (.iinc 1 1, 3)) (d21 : decode cb (h + 5 + 1 + 3 + 1 + 7 + 1 + 3) = .ok (.goto off, 3)) (hoff : ((h + 5 + 1 + 3 + 1 + 7 + 1 + 3 : Nat) : Int) + off = (h : Int))
    (hC : C1 ≤ R.cells) (hS1 : S1 ≤ R.slots)
    (kk : ∀ (gs : List (Nat → Nat)) (ls : Array Slot) (H1 : Heap) (locs1 : List Loc), gs.length = n → lv_has ls ml [(1, .int (nI n)), (0, .ref o)] → va_P D vwCl (P1 ++ (a, .inl (cs t0, n, .inr (.inr (.inr (.inr (refsOf gs)))))) :: (Y ++ gs.flatMap (sl cs ci mZ))) H1 → va_D A (P1 ++ (a, .inl (cs t0, n, .inr (.inr (.inr (.inr (refsOf gs)))))) :: (Y ++ gs.flatMap (sl cs ci mZ))) → va_S A s.heap H1 locs1 → W p l e R s m args below meth c H1 locs1 C1 S1 Q (F0 m (h + 24) ls [])) :
    ∀ (d : Nat) (gs : List (Nat → Nat)) (cells slots : Nat) (H : Heap) (locs : List Loc) (ls : Array Slot), gs.length + d = n → cells + d * (1 + mc) ≤ C1 → slots + d * (N + ms) ≤ S1 → lv_has ls ml [(1, .int (nI gs.length)), (0, .ref o)] → va_P D vwCl (P1 ++ (a, .inl (cs t0, n, .inr (.inr (.inr (.inr (refsOf gs)))))) :: (Y ++ gs.flatMap (sl cs ci mZ))) H → va_D A (P1 ++ (a, .inl (cs t0, n, .inr (.inr (.inr (.inr (refsOf gs)))))) :: (Y ++ gs.flatMap (sl cs ci mZ))) → va_S A s.heap H locs → W p l e R s m args below meth c H locs cells slots Q (F0 m h ls []) := by
  obtain ⟨hx, hb, hml, hown, hts⟩ := id F
  intro d
  induction d with
  | zero =>
    intro gs cells slots H locs ls hg hcc hss hl hP hD hS
    have hg : gs.length = n := hg
    refine hhead gs.length ls H locs cells slots (Nat.le_of_eq hg) (lv_at hl 0 rfl) (fun q => absurd q (by omega)) (fun _ => W.widen (by omega) (by omega) (kk gs ls H locs hg (by rw [← hg]; exact hl) hP hD hS))
  | succ d ih =>
    intro gs cells slots H locs ls hg hcc hss hl hP hD hS
    rw [Nat.add_mul, Nat.one_mul] at hcc hss
    refine hhead gs.length ls H locs cells slots (by omega) (lv_at hl 0 rfl) (fun _ => ?_) (fun q => absurd q (by omega))
    have hP00 : (P1 ++ (a, .inl (cs t0, n, .inr (.inr (.inr (.inr (refsOf gs)))))) :: (Y ++ gs.flatMap (sl cs ci mZ)))[0]? = some (o, .inr (c0, fs)) := by
      rw [List.getElem?_append_left (List.getElem?_eq_some_iff.mp hP0).1]; exact hP0
    refine lv_aload_n hx hb d5 rfl (lv_at hl 1 rfl) ?_
    refine va_get (rest := []) (T := (rcl c0).2.1) hx hb hts (rcl_in hc0) hown E.1 hP 0 hP00 (rcl_mem hc0) kf hk (hts _ hfl) (fun _ h9 => h9) hfv d6 ?_
    refine lv_iload_n hx hb d9 rfl (lv_at hl 0 rfl) ?_
    refine new_obj (adr := fun f : Nat → Nat => f 0) (pst := fun _ => True) (w := fun f => sl cs ci mZ f) (rest := [.int (nI gs.length), .ref a]) F E hA hl.1 hM nw hP hD hS (by omega) (by omega) d10 d13 d14 (Nat.le_of_ble_eq_true rfl) (fun f H1 locs1 _ hP1 hD1 hS1 => ?_)
    have e1 : (P1 ++ (a, .inl (cs t0, n, .inr (.inr (.inr (.inr (refsOf gs)))))) :: (Y ++ gs.flatMap (sl cs ci mZ))) ++ sl cs ci mZ f = P1 ++ ((a, .inl (cs t0, n, .inr (.inr (.inr (.inr (refsOf gs)))))) : Nat × va_E) :: (Y ++ (gs ++ [f]).flatMap (sl cs ci mZ)) := by
      rw [List.flatMap_append, List.append_assoc, List.cons_append, List.append_assoc]
      simp
    have hv : (P1 ++ ((a, .inl (cs t0, n, .inr (.inr (.inr (.inr (refsOf gs)))))) : Nat × va_E) :: (Y ++ (gs ++ [f]).flatMap (sl cs ci mZ)))[(P1 ++ ((a, .inl (cs t0, n, .inr (.inr (.inr (.inr (refsOf gs)))))) : Nat × va_E) :: (Y ++ gs.flatMap (sl cs ci mZ))).length]? = some (f 0, .inr (ci, fls (fun _ _ p => f p) mZ ci 0)) := by
      rw [← e1, List.getElem?_append_right (Nat.le_refl _), Nat.sub_self]
      rfl
    rw [e1] at hP1 hD1
    have hgc : (nI gs.length).toNatClampNeg = gs.length := nI_clamp (by omega)
    refine va_astq (rest := []) hx hb E.1 hP1 hD1 hS1 P1.length t0 _ ci (get_mid _ _ _) ht hv (rcl_mem nw.1) (vp_in_nI (by omega) (by omega)) d17 (fun H2 locs2 hP2 hD2 hS2 => ?_)
    rw [set_mid, hgc, refs_app] at hP2 hD2
    refine lv_iinc (k := 0) (v := nI (gs.length + 1)) hx hb d18 hl rfl (by rw [show Int32.ofInt 1 = (1 : Int32) from rfl]; exact nI_1 _) hml1 rfl (fun ls2 hl2 => ?_)
    refine lv_goto (tgt := h) hx hb d21 hoff ?_
    refine ih (gs ++ [f]) (cells + 1 + mc) (slots + N + ms) H2 locs2 ls2 (by rw [List.length_append]; show gs.length + 1 + d = n; omega) (by omega) (by omega) ?_ hP2 hD2 hS2
    rw [List.length_append]
    exact hl2
end FILL
end
section
/-! CONSTRUCTORS of Tutor, Sheets. -/
theorem wq_in {i : Nat} {w : Jvm.Cond} (h : wq i w = true) : w ∈ wsL_law := wq_at h
def w5 (cs : Nat → ClassId) (u : (Nat → Nat) × List (Nat → Nat) × List (Nat → Nat)) : va_W := [(u.1 0, .inr (5, [.ref (u.1 1), .int 0, .ref (u.1 3), .int 0, .ref (u.1 5), .ref (u.1 6), .ref (u.1 7), .int 0, .int 0, .int 0])), (u.1 1, .inl (cs 0, 5, .inl fun _ => 0)), (u.1 3, .inl (cs 0, 4, .inl fun _ => 0)), (u.1 5, .inl (cs 0, 4, .inl fun _ => 0)), (u.1 6, .inl (cs 3, 6, .inr (.inr (.inr (.inr (refsOf u.2.1)))))), (u.1 7, .inl (cs 3, 5, .inr (.inr (.inr (.inr (refsOf u.2.2))))))] ++ (u.2.1.flatMap (sl cs 0 mZ) ++ u.2.2.flatMap (sl cs 0 mZ))
def pst5 (u : (Nat → Nat) × List (Nat → Nat) × List (Nat → Nat)) : Prop := u.2.1.length = 6 ∧ u.2.2.length = 5
theorem nI0 : Int32.ofInt 0 = nI 0 := by decide +kernel
theorem D1 {A : Nat → Prop} {o : Nat} {e : va_E} (hA : A o) : va_D A [(o, e)] := by
  refine ⟨fun i j p q hi hj _ => ?_, fun k q hk => ?_⟩
  · have hi := (List.getElem?_eq_some_iff.mp hi).1
    have hj := (List.getElem?_eq_some_iff.mp hj).1
    simp at hi hj
    omega
  · cases k with
    | zero => cases hk; exact hA
    | succ k => simp at hk
section TUT
variable {l : Launch} {D : va_G} {cs : Nat → ClassId} {o sz : Nat}
theorem mi_start {y : MethodName} {cb : ByteArray} {ci i w mL mc ms : Nat} {rm : Room} {Qc : Array Value → State → Outcome → State → Prop} (hpl : plainName y.cls = true) (hnm : y.name = "<init>") (h1L : 1 ≤ mL) (hR : 1 ≤ rm.frames ∧ 12 ≤ rm.locals) (h0 : ckD cb 0 (.aload_n 0) 1 = true) (h1 : ckD cb 1 (.invokespecial i) 3 = true) (hw : wq w (.methodLink y.cls i objectInit) = true)
    (body : ∀ (p : Program) (e : Env) (s : State) (m : MethodId) (below : List Frame) (meth : Method) (c : Code) (ls : Array Slot), Fr p s m #[Value.ref o] c y.cls cb mL → meth.name = "<init>" → meth.sig.returnType = none → meth.locks = false → va_P D vwCl [(o, .inr (ci, dfv ci))] s.heap → o < s.heap.size → s.heap.size = sz → Ec D cs s → lv_has ls mL [(0, .ref o)] → W p l e rm s m #[Value.ref o] below meth c s.heap [] 0 0 (MQ below Qc #[Value.ref o] s mc ms (va_A [(o, .inr (ci, dfv ci))] sz)) (F0 m 4 ls [])) :
    Met l y (.code y cb mL none :: wsL_law) rm (iPc D cs o sz ci) Qc mc ms (va_A [(o, .inr (ci, dfv ci))] sz) := by
  refine Met.ofW (cc := cb) (maxL := mL) (ret := none) hpl rfl ?_
  intro p e s m args below meth c s₁ B hml hv
  obtain ⟨rfl, hsz, hP, ho, hE⟩ := hv
  have hts0 := atoms_spec (ws := .code y cb mL none :: wsL_law) B.pre
  have hts : ∀ w ∈ wsL_law, w.before #[Value.ref o] s = true := fun w hw => hts0 w (List.mem_cons_of_mem _ hw)
  have hown : s.vm.findClass y.cls = some m.cls := findClass_of_methodNamed B.named
  have hin : meth.name = "<init>" := (name_of_methodNamed B.named B.method).1.trans hnm
  have F : Fr p s m #[Value.ref o] c y.cls cb mL := ⟨B.exec, B.bytes, hml, hown, hts⟩
  obtain ⟨-, -, w11, w12⟩ := wds_n
  have hl := lv_entry [Value.ref o] (n := mL) (by exact h1L)
  rw [lg_entry_eq]
  generalize (lg_sl [Value.ref o] ++ List.replicate (mL - (lg_sl [Value.ref o]).length) Slot.unset).toArray = ls at hl ⊢
  have hl0 : ls[0]? = some (.val (.ref o)) := lv_at hl 0 rfl
  refine lv_aload_n B.exec B.bytes (ckD_s h0) rfl hl0 ?_
  refine W.objInit B.exec B.bytes hown (hts _ (wq_at hw)) (hts _ (wq_at w11)) (hts _ (wq_at w12)) rfl (by rw [hml]; exact hl.1) rfl (ckD_s h1) hR.1 hR.2 ?_
  refine W.eq (g2 := F0 m 4 ls []) rfl ?_
  exact body p e s m below meth c ls F hin B.returns B.notSynchronized hP (by omega) hsz hE hl

theorem nw0 {R : Room} {own : String} {i1 i2 a b : Nat} (ha : wq a (.classLink own i1 RX0) = true) (hb : wq b (.methodLink own i2 yX0_init) = true) (hR : 2 ≤ R.frames ∧ 60 ≤ R.locals) : nwOK R own 0 6 i1 i2 1 yX0_init cX0_init { frames := 1, cells := 5, slots := 64, locals := 40 } 5 64 :=
  ⟨by decide, rfl, rfl, rfl, wq_at ha, wq_at (i := 25) (by decide +kernel), wq_at (i := 26) (by decide +kernel), rfl, by decide +kernel, rfl, by decide +kernel, wq_at hb, wq_at (i := 72) (by decide +kernel), wq_at (i := 73) (by decide +kernel), hR⟩
set_option maxRecDepth 20000 in
set_option maxHeartbeats 2000000 in
theorem mi5 : Met l yX5_init (.code yX5_init cX5_init 2 none :: wsL_law) { frames := 2, cells := 71, slots := 794, locals := 80 } (iPc D cs o sz 5) (iQg (fun u : (Nat → Nat) × List (Nat → Nat) × List (Nat → Nat) => u.1 0) pst5 (w5 cs) D o sz 5) 71 794 (va_A [(o, .inr (5, dfv 5))] sz) := by
  refine mi_start (i := 3) (w := 83) (by decide +kernel) rfl (by decide) ⟨by decide, by decide⟩ (by decide +kernel) (by decide +kernel) (by decide +kernel) ?_
  intro p e s m below meth c ls F hin hr hlocks hP ho hsz hE hl
  subst hsz
  have hAA : ∀ q, s.heap.size ≤ q → va_A [(o, .inr (5, dfv 5))] s.heap.size q := fun q hq => Or.inr hq
  have hl0 : ls[0]? = some (.val (.ref o)) := lv_at hl 0 rfl
  refine bks_run (A := va_A [(o, .inr (5, dfv 5))] s.heap.size) (arrs := []) F hE.1 (by decide) hin hAA hl0 bk5 4 (dfv 5) 0 0 s.heap [] (by decide +kernel) (by decide +kernel) hP (D1 (Or.inl ⟨0, _, rfl⟩)) va_S.rf (Nat.le_of_ble_eq_true rfl) (Nat.le_of_ble_eq_true rfl) (fun qs H1 locs1 hq hP1 hD1 hS1 => ?_)
  obtain ⟨q1, q2, q3, rfl⟩ : ∃ a b c, qs = [a, b, c] := by
    match qs, hq with
    | [a, b, c], _ => exact ⟨a, b, c, rfl⟩
  refine W.eq (g2 := F0 m 25 ls []) rfl ?_
  refine put_row (C := RX0) (L := 2) (N := 6) (t0 := 3) (i1 := 21) (c0 := 5) (k := 5) (i3 := 23) (o := o) (fs := [.ref q1, .int 0, .ref q2, .int 0, .ref q3, .null, .null, .int 0, .int 0, .int 0]) (X := [(q1, .inl (cs 0, 5, .inl fun _ => 0)), (q2, .inl (cs 0, 4, .inl fun _ => 0)), (q3, .inl (cs 0, 4, .inl fun _ => 0))]) (ty := .array (.object RX0)) F hE hAA hin hl0 (wq_at (i := 87) (by decide +kernel)) hE.2.2.1 rfl (by decide) ⟨by decide, by decide +kernel, wq_at (i := 88) (by decide +kernel), rfl, by decide +kernel, fun a => ⟨rfl, rfl⟩⟩ rfl hP1 hD1 hS1 (Nat.le_of_ble_eq_true rfl) (Nat.le_of_ble_eq_true rfl) (ckD_s (by decide +kernel)) (by decide +kernel) (ckD_s (by decide +kernel)) (ckD_s (by decide +kernel)) (fun a H2 locs2 hP2 hD2 hS2 => ?_)
  refine W.eq (g2 := F0 m 34 ls []) rfl ?_
  refine put_row (C := RX0) (L := 1) (N := 5) (t0 := 3) (i1 := 21) (c0 := 5) (k := 6) (i3 := 27) (o := o) (fs := [.ref q1, .int 0, .ref q2, .int 0, .ref q3, .ref a, .null, .int 0, .int 0, .int 0]) (X := [(q1, .inl (cs 0, 5, .inl fun _ => 0)), (q2, .inl (cs 0, 4, .inl fun _ => 0)), (q3, .inl (cs 0, 4, .inl fun _ => 0)), (a, .inl (cs 3, 6, .inr (.inr (.inr (.inr (refsOf []))))))]) (ty := .array (.object RX0)) F hE hAA hin hl0 (wq_at (i := 87) (by decide +kernel)) hE.2.2.1 rfl (by decide) ⟨by decide, by decide +kernel, wq_at (i := 89) (by decide +kernel), rfl, by decide +kernel, fun a => ⟨rfl, rfl⟩⟩ rfl hP2 hD2 hS2 (Nat.le_of_ble_eq_true rfl) (Nat.le_of_ble_eq_true rfl) (ckD_s (by decide +kernel)) (by decide +kernel) (ckD_s (by decide +kernel)) (ckD_s (by decide +kernel)) (fun b H3 locs3 hP3 hD3 hS3 => ?_)
  refine W.eq (g2 := F0 m 42 ls []) rfl ?_
  refine lv_iconst (v := nI 0) F.1 F.2.1 (n := 0) (ckD_s (by decide +kernel)) nI0 ?_
  refine lv_istore_n (k := 1) F.1 F.2.1 (ckD_s (by decide +kernel)) rfl hl (by decide) rfl (fun ls1 hl1 => ?_)
  refine W.eq (g2 := F0 m 44 ls1 []) rfl ?_
  refine fill_loop (o := o) (a := a) (c0 := 5) (kf := 5) (i0 := 23) (i1 := 21) (i2 := 30) (h := 44) (n := 6) (t0 := 3) (ci := 0) (N := 6) (maxL := 1) (mc := 5) (ms := 64) (C1 := 41) (S1 := 444) (y := yX0_init) (yc := cX0_init) (rm := { frames := 1, cells := 5, slots := 64, locals := 40 }) (P1 := [(o, .inr (5, [.ref q1, .int 0, .ref q2, .int 0, .ref q3, .ref a, .ref b, .int 0, .int 0, .int 0])), (q1, .inl (cs 0, 5, .inl fun _ => 0)), (q2, .inl (cs 0, 4, .inl fun _ => 0)), (q3, .inl (cs 0, 4, .inl fun _ => 0))]) (Y := [(b, .inl (cs 3, 5, .inr (.inr (.inr (.inr (refsOf []))))))]) (off := -21)
    F hE hAA (by decide) (by decide) rfl (by decide +kernel) (wq_at (i := 88) (by decide +kernel)) rfl (fun o sz => mio0) (nw0 (a := 87) (b := 90) (by decide +kernel) (by decide +kernel) ⟨Nat.le_of_ble_eq_true rfl, Nat.le_of_ble_eq_true rfl⟩) rfl (by decide) ?_ (ckD_s (by decide +kernel)) (ckD_s (by decide +kernel)) (ckD_s (by decide +kernel)) (ckD_s (by decide +kernel)) (ckD_s (by decide +kernel)) (ckD_s (by decide +kernel)) (ckD_s (by decide +kernel)) (ckD_s (by decide +kernel)) (ckD_s (by decide +kernel)) (by decide) (Nat.le_of_ble_eq_true rfl) (Nat.le_of_ble_eq_true rfl) ?_ 6 [] _ _ H3 locs3 ls1 rfl (Nat.le_of_ble_eq_true rfl) (Nat.le_of_ble_eq_true rfl) hl1 hP3 hD3 hS3
  · intro i ls H locs cells slots hi hls k1 k2
    refine lv_iload_n F.1 F.2.1 (k := 1) (ckD_s (by decide +kernel)) rfl hls ?_
    refine lv_iconst (v := nI 5) F.1 F.2.1 (n := 5) (ckD_s (by decide +kernel)) (by decide +kernel) ?_
    refine lv_icmp_gt (tgt := 68) F.1 F.2.1 (off := 22) (ckD_s (by decide +kernel)) (by decide) (fun q => ?_) (fun q => ?_)
    · have q := (nI_ltI (by omega) (by omega)).mp q
      exact k2 (by omega)
    · have q : ¬ 5 < i := fun q9 => q (nI_lt q9 (by omega))
      exact k1 (by omega)
  · intro gs ls H4 locs4 hg hl hP4 hD4 hS4
    refine W.eq (g2 := F0 m 68 ls []) rfl ?_
    refine lv_iconst (v := nI 0) F.1 F.2.1 (n := 0) (ckD_s (by decide +kernel)) nI0 ?_
    refine lv_istore_n (k := 1) F.1 F.2.1 (ckD_s (by decide +kernel)) rfl hl (by decide) rfl (fun ls2 hl2 => ?_)
    refine W.eq (g2 := F0 m 70 ls2 []) rfl ?_
    have eN : gs.flatMap (sl cs 0 mZ) ++ ([] : List (Nat → Nat)).flatMap (sl cs 0 mZ) = gs.flatMap (sl cs 0 mZ) := List.append_nil _
    refine fill_loop (o := o) (a := b) (c0 := 5) (kf := 6) (i0 := 27) (i1 := 21) (i2 := 30) (h := 70) (n := 5) (t0 := 3) (ci := 0) (N := 6) (maxL := 1) (mc := 5) (ms := 64) (C1 := 71) (S1 := 794) (y := yX0_init) (yc := cX0_init) (rm := { frames := 1, cells := 5, slots := 64, locals := 40 }) (P1 := [(o, .inr (5, [.ref q1, .int 0, .ref q2, .int 0, .ref q3, .ref a, .ref b, .int 0, .int 0, .int 0])), (q1, .inl (cs 0, 5, .inl fun _ => 0)), (q2, .inl (cs 0, 4, .inl fun _ => 0)), (q3, .inl (cs 0, 4, .inl fun _ => 0)), (a, .inl (cs 3, 6, .inr (.inr (.inr (.inr (refsOf gs))))))]) (Y := gs.flatMap (sl cs 0 mZ)) (off := -21)
      F hE hAA (by decide) (by decide) rfl (by decide +kernel) (wq_at (i := 89) (by decide +kernel)) rfl (fun o sz => mio0) (nw0 (a := 87) (b := 90) (by decide +kernel) (by decide +kernel) ⟨Nat.le_of_ble_eq_true rfl, Nat.le_of_ble_eq_true rfl⟩) rfl (by decide) ?_ (ckD_s (by decide +kernel)) (ckD_s (by decide +kernel)) (ckD_s (by decide +kernel)) (ckD_s (by decide +kernel)) (ckD_s (by decide +kernel)) (ckD_s (by decide +kernel)) (ckD_s (by decide +kernel)) (ckD_s (by decide +kernel)) (ckD_s (by decide +kernel)) (by decide) (Nat.le_of_ble_eq_true rfl) (Nat.le_of_ble_eq_true rfl) ?_ 5 [] _ _ H4 locs4 ls2 rfl (Nat.le_of_ble_eq_true rfl) (Nat.le_of_ble_eq_true rfl) hl2 (by rw [eN]; exact hP4) (by rw [eN]; exact hD4) hS4
    · intro i ls H locs cells slots hi hls k1 k2
      refine lv_iload_n F.1 F.2.1 (k := 1) (ckD_s (by decide +kernel)) rfl hls ?_
      refine lv_iconst (v := nI 4) F.1 F.2.1 (n := 4) (ckD_s (by decide +kernel)) (by decide +kernel) ?_
      refine lv_icmp_gt (tgt := 94) F.1 F.2.1 (off := 22) (ckD_s (by decide +kernel)) (by decide) (fun q => ?_) (fun q => ?_)
      · have q := (nI_ltI (by omega) (by omega)).mp q
        exact k2 (by omega)
      · have q : ¬ 4 < i := fun q9 => q (nI_lt q9 (by omega))
        exact k1 (by omega)
    · intro hs ls H5 locs5 hh hl hP5 hD5 hS5
      refine W.vret F.1 F.2.1 hr (fun t ht _ => ⟨⟨(fun p => [o, q1, 0, q2, 0, q3, a, b].getD p 0, gs, hs), rfl, ⟨rfl, hg, hh⟩, ?_, hD5⟩, hS5.F ht⟩) hS5.2.2 (ckD_s (by decide +kernel)) hlocks
      rw [ht]
      exact hP5
end TUT
end
section
/-! CONSTRUCTORS: Sheets. -/
def szF (i : Nat) : Nat → Int32 := fun j => if j < i then -4 else 0
theorem szF_s (i : Nat) : upd (szF i) i (-4) = szF (i + 1) := by
  funext j
  unfold upd szF
  by_cases h : j = i
  · subst h
    simp
  · by_cases h2 : j < i
    · simp [h, h2, Nat.lt_succ_of_lt h2]
    · simp [h, h2, show ¬ j < i + 1 by omega]
def w2 (cs : Nat → ClassId) (f : Nat → Nat) : va_W := [(f 0, .inr (2, [.ref (f 1), .ref (f 2), .ref (f 3)])), (f 1, .inl (cs 0, 4, .inl (szF 4))), (f 2, .inl (cs 0, 4, .inl fun _ => 0)), (f 3, .inl (cs 4, 4, .inr (.inr (.inr (.inr fun i => if i < 4 then some (f (4 + i)) else none))))), (f 4, .inl (cs 0, 40, .inl fun _ => 0)), (f 5, .inl (cs 0, 40, .inl fun _ => 0)), (f 6, .inl (cs 0, 40, .inl fun _ => 0)), (f 7, .inl (cs 0, 40, .inl fun _ => 0))]
theorem vr_const {l : List Nat} {v : va_E} : vr_up (fun _ => v) l v = fun _ => v := by
  funext a
  unfold vr_up
  split <;> rfl
section SHE
variable {l : Launch} {D : va_G} {cs : Nat → ClassId} {o sz : Nat}
set_option maxRecDepth 20000 in
set_option maxHeartbeats 2000000 in
theorem mi2 : Met l yX2_init (.code yX2_init cX2_init 2 none :: wsL_law) { frames := 1, cells := 7, slots := 172, locals := 40 } (iPc D cs o sz 2) (iQg (fun f : Nat → Nat => f 0) (fun _ => True) (w2 cs) D o sz 2) 7 172 (va_A [(o, .inr (2, dfv 2))] sz) := by
  refine mi_start (i := 3) (w := 94) (by decide +kernel) rfl (by decide) ⟨by decide, by decide⟩ (by decide +kernel) (by decide +kernel) (by decide +kernel) ?_
  intro p e s m below meth c ls F hin hr hlocks hP ho hsz hE hl
  subst hsz
  obtain ⟨hx, hb, hml, hown, hts⟩ := id F
  have hAA : ∀ q, s.heap.size ≤ q → va_A [(o, .inr (2, dfv 2))] s.heap.size q := fun q hq => Or.inr hq
  have hl0 : ls[0]? = some (.val (.ref o)) := lv_at hl 0 rfl
  refine bks_run (A := va_A [(o, .inr (2, dfv 2))] s.heap.size) (arrs := []) F hE.1 (by decide) hin hAA hl0 bk2 4 (dfv 2) 0 0 s.heap [] (by decide +kernel) (by decide +kernel) hP (D1 (Or.inl ⟨0, _, rfl⟩)) va_S.rf (Nat.le_of_ble_eq_true rfl) (Nat.le_of_ble_eq_true rfl) (fun qs H1 locs1 hq hP1 hD1 hS1 => ?_)
  obtain ⟨q1, q2, rfl⟩ : ∃ a b, qs = [a, b] := by
    match qs, hq with
    | [a, b], _ => exact ⟨a, b, rfl⟩
  refine W.eq (g2 := F0 m 18 ls []) rfl ?_
  refine lv_aload_n (k := 0) hx hb (ckD_s (by decide +kernel)) rfl hl0 ?_
  refine lv_iconst (v := nI 4) hx hb (n := 4) (ckD_s (by decide +kernel)) (by decide +kernel) ?_
  refine lv_bipush (v := nI 40) hx hb (n := 40) (ckD_s (by decide +kernel)) (by decide +kernel) ?_
  refine W.eq (g2 := F0 m 22 ls [.int (nI 40), .int (nI 4), .ref o]) rfl ?_
  have h00 : s.vm.findClass (FieldType.array .int).toString = some (cs 0) := (hE.1.2 0 (cs 0, .int) rfl).2
  refine va_mna (X := [(o, .inr (2, [.ref q1, .ref q2, .null])), (q1, .inl (cs 0, 4, .inl fun _ => 0)), (q2, .inl (cs 0, 4, .inl fun _ => 0))]) (L := []) (f := fun _ => .inl (cs 0, 40, .inl fun _ => 0)) (ty := .int) (N' := 4) (K' := 40) (z := (40, .inl fun _ => 0)) (index := 18) (own := RX2) hx hb hown (hts _ (wq_at (i := 97) (by decide +kernel))) hE.2.2.2 (hts _ (wq_at (i := 3) (by decide +kernel))) h00 hE.1 hP1 hD1 hS1 hAA (by decide +kernel) (by decide +kernel) (by decide +kernel) (by decide +kernel) (Nat.le_of_ble_eq_true rfl) (Nat.le_of_ble_eq_true rfl) (Nat.le_of_ble_eq_true rfl) rfl rfl (Nat.le_of_ble_eq_true rfl) (Nat.le_of_ble_eq_true rfl) (fun c9 => ?_) (ckD_s (by decide +kernel)) (fun q r cA H2 hri hrl hK2 hP2 hD2 hS2 => ?_)
  · show ({ cls := c9, slots := Array.replicate 40 (.int 0), vm := .none } : Cell) = _
    rw [arrV_new]
    rfl
  have h4 : s.vm.findClass ("[" ++ (FieldType.array .int).toString) = some cA := (hK2.2 6 (cA, .array .int) rfl).2
  have h4' : s.vm.findClass ("[" ++ (FieldType.array .int).toString) = some (cs 4) := (hE.1.2 4 (cs 4, .array .int) rfl).2
  obtain rfl : cA = cs 4 := Option.some.inj (h4.symm.trans h4')
  rw [vr_const] at hP2 hD2
  refine W.eq (g2 := F0 m 26 ls [.ref q, .ref o]) rfl ?_
  refine put_any (c0 := 2) (k := 2) (i := 20) (o := o) (fs := [.ref q1, .ref q2, .null]) (ty := .array (.array .int)) (v := .ref q) (X := [(q1, .inl (cs 0, 4, .inl fun _ => 0)), (q2, .inl (cs 0, 4, .inl fun _ => 0)), (q, .inl (cs 4, 4, .inr (.inr (.inr (.inr fun i => if i < 4 then some (r i) else none))))), (r 0, .inl (cs 0, 40, .inl fun _ => 0)), (r 1, .inl (cs 0, 40, .inl fun _ => 0)), (r 2, .inl (cs 0, 40, .inl fun _ => 0)), (r 3, .inl (cs 0, 40, .inl fun _ => 0))]) F hE.1 (by decide) (by decide +kernel) (wq_at (i := 98) (by decide +kernel)) hin rfl (by decide +kernel) rfl rfl rfl hP2 hD2 hS2 (ckD_s (by decide +kernel)) (fun H3 locs3 hP3 hD3 hS3 => ?_)
  refine W.eq (g2 := F0 m 29 ls []) rfl ?_
  refine lv_iconst (v := nI 0) hx hb (n := 0) (ckD_s (by decide +kernel)) nI0 ?_
  refine lv_istore_n (k := 1) hx hb (ckD_s (by decide +kernel)) rfl hl (by decide) rfl (fun ls1 hl1 => ?_)
  refine W.eq (g2 := F0 m 31 ls1 []) rfl ?_
  have loop : ∀ (d i : Nat) (ls : Array Slot) (H : Heap) (locs : List Loc), i + d = 4 → lv_has ls 2 [(1, .int (nI i)), (0, .ref o)] →
      va_P D vwCl [(o, .inr (2, [.ref q1, .ref q2, .ref q])), (q1, .inl (cs 0, 4, .inl (szF i))), (q2, .inl (cs 0, 4, .inl fun _ => 0)), (q, .inl (cs 4, 4, .inr (.inr (.inr (.inr fun i => if i < 4 then some (r i) else none))))), (r 0, .inl (cs 0, 40, .inl fun _ => 0)), (r 1, .inl (cs 0, 40, .inl fun _ => 0)), (r 2, .inl (cs 0, 40, .inl fun _ => 0)), (r 3, .inl (cs 0, 40, .inl fun _ => 0))] H →
      va_D (va_A [(o, .inr (2, dfv 2))] s.heap.size) [(o, .inr (2, [.ref q1, .ref q2, .ref q])), (q1, .inl (cs 0, 4, .inl (szF i))), (q2, .inl (cs 0, 4, .inl fun _ => 0)), (q, .inl (cs 4, 4, .inr (.inr (.inr (.inr fun i => if i < 4 then some (r i) else none))))), (r 0, .inl (cs 0, 40, .inl fun _ => 0)), (r 1, .inl (cs 0, 40, .inl fun _ => 0)), (r 2, .inl (cs 0, 40, .inl fun _ => 0)), (r 3, .inl (cs 0, 40, .inl fun _ => 0))] →
      va_S (va_A [(o, .inr (2, dfv 2))] s.heap.size) s.heap H locs → W p l e { frames := 1, cells := 7, slots := 172, locals := 40 } s m #[Value.ref o] below meth c H locs 7 172 (MQ below (iQg (fun f : Nat → Nat => f 0) (fun _ => True) (w2 cs) D o s.heap.size 2) #[Value.ref o] s 7 172 (va_A [(o, .inr (2, dfv 2))] s.heap.size)) (F0 m 31 ls []) := by
    intro d
    induction d with
    | zero =>
      intro i ls H locs hi hl hP hD hS
      obtain rfl : i = 4 := hi
      refine lv_iload_n (k := 1) hx hb (ckD_s (by decide +kernel)) rfl (lv_at hl 0 rfl) ?_
      refine lv_iconst (v := nI 4) hx hb (n := 4) (ckD_s (by decide +kernel)) (by decide +kernel) ?_
      refine lv_icmp_ge (tgt := 50) hx hb (off := 17) (ckD_s (by decide +kernel)) (by decide) (fun _ => ?_) (fun q => absurd (Int32.le_refl _) q)
      refine W.vret hx hb hr (fun t ht _ => ⟨⟨fun p => match p with | 0 => o | 1 => q1 | 2 => q2 | 3 => q | p + 4 => r p, rfl, ⟨rfl, trivial⟩, ?_, ?_⟩, hS.F ht⟩) hS.2.2 (ckD_s (by decide +kernel)) hlocks
      · rw [ht]
        have e : (fun i => if i < 4 then some ((fun p => match p with | 0 => o | 1 => q1 | 2 => q2 | 3 => q | p + 4 => r p : Nat → Nat) (4 + i)) else none) = (fun i => if i < 4 then some (r i) else none) := by
          funext i
          rw [Nat.add_comm]
        unfold w2
        rw [e]
        exact hP
      · have e : (fun i => if i < 4 then some ((fun p => match p with | 0 => o | 1 => q1 | 2 => q2 | 3 => q | p + 4 => r p : Nat → Nat) (4 + i)) else none) = (fun i => if i < 4 then some (r i) else none) := by
          funext i
          rw [Nat.add_comm]
        unfold w2
        rw [e]
        exact hD
    | succ d ih =>
      intro i ls H locs hi hl hP hD hS
      refine lv_iload_n (k := 1) hx hb (ckD_s (by decide +kernel)) rfl (lv_at hl 0 rfl) ?_
      refine lv_iconst (v := nI 4) hx hb (n := 4) (ckD_s (by decide +kernel)) (by decide +kernel) ?_
      refine lv_icmp_ge (tgt := 50) hx hb (off := 17) (ckD_s (by decide +kernel)) (by decide) (fun q => absurd q (nI_ge (by omega) (by omega))) (fun _ => ?_)
      refine lv_aload_n (k := 0) hx hb (ckD_s (by decide +kernel)) rfl (lv_at hl 1 rfl) ?_
      refine va_get (rest := []) (T := (rcl 2).2.1) (index := 9) hx hb hts (rcl_in (c := 2) (by decide)) hown hE.1 hP 0 rfl (rcl_mem (c := 2) (by decide)) 0 (by decide +kernel) (hts _ (wq_at (i := 95) (by decide +kernel))) (fun _ h9 => h9) rfl (ckD_s (by decide +kernel)) ?_
      refine lv_iload_n (k := 1) hx hb (ckD_s (by decide +kernel)) rfl (lv_at hl 0 rfl) ?_
      refine lv_bipush (v := -4) hx hb (n := -4) (ckD_s (by decide +kernel)) (by decide +kernel) ?_
      refine va_iast (rest := []) hx hb hE.1 hP hD hS 1 0 rfl rfl (vp_in_nI (by omega) (by omega)) (ckD_s (by decide +kernel)) (fun H1 locs1 hP1 hD1 hS1 => ?_)
      rw [nI_clamp (by omega), szF_s] at hP1 hD1
      refine lv_iinc (k := 0) (v := nI (i + 1)) hx hb (n := 1) (ckD_s (by decide +kernel)) hl rfl (by rw [show Int32.ofInt 1 = (1 : Int32) from rfl]; exact nI_1 _) (by decide) rfl (fun ls2 hl2 => ?_)
      refine lv_goto (tgt := 31) (off := -16) hx hb (ckD_s (by decide +kernel)) (by decide) ?_
      exact ih (i + 1) ls2 H1 locs1 (by omega) hl2 hP1 hD1 hS1
  have e0 : (fun _ => 0 : Nat → Int32) = szF 0 := by
    funext j
    simp [szF]
  refine loop 4 0 ls1 H3 locs3 rfl hl1 ?_ ?_ hS3
  · rw [← e0]; exact hP3
  · rw [← e0]; exact hD3
end SHE
end
section
/-! CONSTRUCTORS: FirstWords. -/
abbrev S6_ : Type := (Nat × Nat) × (Nat → Nat) × (Nat → Nat) × (Nat → Nat) × (Nat → Nat) × List (Nat → Nat) × (Nat → Nat) × (Nat → Nat) × ((Nat → Nat) × List (Nat → Nat) × List (Nat → Nat)) × (Nat → Nat)
def w6 (cs : Nat → ClassId) (u : S6_) : va_W := match u with
  | ((o, a), f3, f4, g4, f1, gs, f0, g0, u5, f2) => (o, .inr (6, [.ref (f3 0), .ref (f4 0), .ref (g4 0), .ref (f1 0), .ref a, .ref (f0 0), .ref (g0 0), .ref (u5.1 0), .ref (f2 0), .int 0])) :: ((((((((([] ++ sl cs 3 mZ f3) ++ sl cs 4 mZ f4) ++ sl cs 4 mZ g4) ++ sl cs 1 mZ f1) ++ (a, .inl (cs 2, 2, .inr (.inr (.inr (.inr (refsOf gs)))))) :: ([] ++ gs.flatMap (sl cs 1 mZ))) ++ sl cs 0 mZ f0) ++ sl cs 0 mZ g0) ++ w5 cs u5) ++ w2 cs f2)
def pst6 (u : S6_) : Prop := match u with
  | (_, _, _, _, _, gs, _, _, u5, _) => gs.length = 2 ∧ pst5 u5
theorem nwF3 {R : Room} {i1 i2 a b : Nat} (ha : wq a (.classLink RX6 i1 RX3) = true) (hb : wq b (.methodLink RX6 i2 yX3_init) = true) (hR : 3 ≤ R.frames ∧ 110 ≤ R.locals) : nwOK R RX6 3 9 i1 i2 1 yX3_init cX3_init { frames := 1, cells := 1, slots := 400, locals := 40 } 1 400 :=
  ⟨by decide, rfl, rfl, rfl, wq_at ha, wq_at (i := 11) (by decide +kernel), wq_at (i := 12) (by decide +kernel), rfl, by decide +kernel, rfl, by decide +kernel, wq_at hb, wq_at (i := 38) (by decide +kernel), wq_at (i := 39) (by decide +kernel), ⟨Nat.le_trans (by decide) hR.1, Nat.le_trans (by decide) hR.2⟩⟩
theorem nwF4 {R : Room} {i1 i2 a b : Nat} (ha : wq a (.classLink RX6 i1 RX4) = true) (hb : wq b (.methodLink RX6 i2 yX4_init) = true) (hR : 3 ≤ R.frames ∧ 110 ≤ R.locals) : nwOK R RX6 4 19 i1 i2 1 yX4_init cX4_init { frames := 1, cells := 15, slots := 128, locals := 40 } 15 128 :=
  ⟨by decide, rfl, rfl, rfl, wq_at ha, wq_at (i := 15) (by decide +kernel), wq_at (i := 16) (by decide +kernel), rfl, by decide +kernel, rfl, by decide +kernel, wq_at hb, wq_at (i := 43) (by decide +kernel), wq_at (i := 44) (by decide +kernel), ⟨Nat.le_trans (by decide) hR.1, Nat.le_trans (by decide) hR.2⟩⟩
theorem nwF1 {R : Room} {i1 i2 a b : Nat} (ha : wq a (.classLink RX6 i1 RX1) = true) (hb : wq b (.methodLink RX6 i2 yX1_init) = true) (hR : 3 ≤ R.frames ∧ 110 ≤ R.locals) : nwOK R RX6 1 9 i1 i2 1 yX1_init cX1_init { frames := 1, cells := 5, slots := 96, locals := 40 } 5 96 :=
  ⟨by decide, rfl, rfl, rfl, wq_at ha, wq_at (i := 20) (by decide +kernel), wq_at (i := 21) (by decide +kernel), rfl, by decide +kernel, rfl, by decide +kernel, wq_at hb, wq_at (i := 63) (by decide +kernel), wq_at (i := 64) (by decide +kernel), ⟨Nat.le_trans (by decide) hR.1, Nat.le_trans (by decide) hR.2⟩⟩
theorem nwF0 {R : Room} {i1 i2 a b : Nat} (ha : wq a (.classLink RX6 i1 RX0) = true) (hb : wq b (.methodLink RX6 i2 yX0_init) = true) (hR : 3 ≤ R.frames ∧ 110 ≤ R.locals) : nwOK R RX6 0 6 i1 i2 1 yX0_init cX0_init { frames := 1, cells := 5, slots := 64, locals := 40 } 5 64 :=
  ⟨by decide, rfl, rfl, rfl, wq_at ha, wq_at (i := 25) (by decide +kernel), wq_at (i := 26) (by decide +kernel), rfl, by decide +kernel, rfl, by decide +kernel, wq_at hb, wq_at (i := 72) (by decide +kernel), wq_at (i := 73) (by decide +kernel), ⟨Nat.le_trans (by decide) hR.1, Nat.le_trans (by decide) hR.2⟩⟩
theorem nwF5 {R : Room} {i1 i2 a b : Nat} (ha : wq a (.classLink RX6 i1 RX5) = true) (hb : wq b (.methodLink RX6 i2 yX5_init) = true) (hR : 3 ≤ R.frames ∧ 110 ≤ R.locals) : nwOK R RX6 5 10 i1 i2 2 yX5_init cX5_init { frames := 2, cells := 71, slots := 794, locals := 80 } 71 794 :=
  ⟨by decide, rfl, rfl, rfl, wq_at ha, wq_at (i := 30) (by decide +kernel), wq_at (i := 31) (by decide +kernel), rfl, by decide +kernel, rfl, by decide +kernel, wq_at hb, wq_at (i := 81) (by decide +kernel), wq_at (i := 82) (by decide +kernel), ⟨Nat.le_trans (by decide) hR.1, Nat.le_trans (by decide) hR.2⟩⟩
theorem nwF2 {R : Room} {i1 i2 a b : Nat} (ha : wq a (.classLink RX6 i1 RX2) = true) (hb : wq b (.methodLink RX6 i2 yX2_init) = true) (hR : 3 ≤ R.frames ∧ 110 ≤ R.locals) : nwOK R RX6 2 3 i1 i2 2 yX2_init cX2_init { frames := 1, cells := 7, slots := 172, locals := 40 } 7 172 :=
  ⟨by decide, rfl, rfl, rfl, wq_at ha, wq_at (i := 34) (by decide +kernel), wq_at (i := 35) (by decide +kernel), rfl, by decide +kernel, rfl, by decide +kernel, wq_at hb, wq_at (i := 92) (by decide +kernel), wq_at (i := 93) (by decide +kernel), ⟨Nat.le_trans (by decide) hR.1, Nat.le_trans (by decide) hR.2⟩⟩
section FWI
variable {l : Launch} {D : va_G} {cs : Nat → ClassId} {o sz : Nat}
set_option maxRecDepth 20000 in
set_option maxHeartbeats 4000000 in
theorem mi6 : Met l yX6_init (.code yX6_init cX6_init 2 none :: wsL_law) { frames := 3, cells := 145, slots := 2139, locals := 120 } (iPc D cs o sz 6) (iQg (fun u : S6_ => u.1.1) pst6 (w6 cs) D o sz 6) 145 2139 (va_A [(o, .inr (6, dfv 6))] sz) := by
  refine mi_start (i := 1) (w := 7) (by decide +kernel) rfl (by decide) ⟨by decide, by decide⟩ (by decide +kernel) (by decide +kernel) (by decide +kernel) ?_
  intro p e s m below meth c ls F hin hr hlocks hP0 ho hsz hE hl
  subst hsz
  have hAA : ∀ q, s.heap.size ≤ q → va_A [(o, .inr (6, dfv 6))] s.heap.size q := fun q hq => Or.inr hq
  have hl0ls : ls[0]? = some (.val (.ref o)) := lv_at hl 0 rfl
  have hlzls : ls.size = 2 := hl.1
  have hD0 : va_D (va_A [(o, .inr (6, dfv 6))] s.heap.size) [(o, .inr (6, dfv 6))] := D1 (Or.inl ⟨0, _, rfl⟩)
  refine W.eq (g2 := F0 m 4 ls []) rfl ?_
  refine put_obj (adr := fun f : Nat → Nat => f 0) (pst := fun _ => True) (w := fun f => sl cs 3 mZ f) (ci := 3) (N := 9) (i1 := 7) (i2 := 9) (maxL := 1) (mc := 1) (ms := 400) (c0 := 6) (k := 0) (i3 := 10) (o := o) (fs := [.null, .null, .null, .null, .null, .null, .null, .null, .null, .int 0]) (ty := .object RX3) (y := yX3_init) (yc := cX3_init) (rm := { frames := 1, cells := 1, slots := 400, locals := 40 }) (X := ([] : va_W)) F hE hAA hin hlzls hl0ls (fun o sz => mi3) (nwF3 (a := 10) (b := 37) (by decide +kernel) (by decide +kernel) ⟨Nat.le_of_ble_eq_true rfl, Nat.le_of_ble_eq_true rfl⟩) ⟨by decide, by decide +kernel, wq_at (i := 13) (by decide +kernel), rfl, by decide +kernel, fun a => ⟨rfl, rfl⟩⟩ rfl hP0 hD0 va_S.rf (Nat.le_of_ble_eq_true rfl) (Nat.le_of_ble_eq_true rfl) (ckD_s (by decide +kernel)) (ckD_s (by decide +kernel)) (ckD_s (by decide +kernel)) (ckD_s (by decide +kernel)) (ckD_s (by decide +kernel)) (fun f3 H1 locs1 hu1 hP1 hD1 hS1 => ?_)
  refine W.eq (g2 := F0 m 15 ls []) rfl ?_
  refine put_obj (adr := fun f : Nat → Nat => f 0) (pst := fun _ => True) (w := fun f => sl cs 4 mZ f) (ci := 4) (N := 19) (i1 := 16) (i2 := 18) (maxL := 1) (mc := 15) (ms := 128) (c0 := 6) (k := 1) (i3 := 19) (o := o) (fs := [.ref (f3 0), .null, .null, .null, .null, .null, .null, .null, .null, .int 0]) (ty := .object RX4) (y := yX4_init) (yc := cX4_init) (rm := { frames := 1, cells := 15, slots := 128, locals := 40 }) (X := (([] : va_W) ++ sl cs 3 mZ f3)) F hE hAA hin hlzls hl0ls (fun o sz => mi4) (nwF4 (a := 14) (b := 42) (by decide +kernel) (by decide +kernel) ⟨Nat.le_of_ble_eq_true rfl, Nat.le_of_ble_eq_true rfl⟩) ⟨by decide, by decide +kernel, wq_at (i := 17) (by decide +kernel), rfl, by decide +kernel, fun a => ⟨rfl, rfl⟩⟩ rfl hP1 hD1 hS1 (Nat.le_of_ble_eq_true rfl) (Nat.le_of_ble_eq_true rfl) (ckD_s (by decide +kernel)) (ckD_s (by decide +kernel)) (ckD_s (by decide +kernel)) (ckD_s (by decide +kernel)) (ckD_s (by decide +kernel)) (fun f4 H2 locs2 hu2 hP2 hD2 hS2 => ?_)
  refine W.eq (g2 := F0 m 26 ls []) rfl ?_
  refine put_obj (adr := fun f : Nat → Nat => f 0) (pst := fun _ => True) (w := fun f => sl cs 4 mZ f) (ci := 4) (N := 19) (i1 := 16) (i2 := 18) (maxL := 1) (mc := 15) (ms := 128) (c0 := 6) (k := 2) (i3 := 23) (o := o) (fs := [.ref (f3 0), .ref (f4 0), .null, .null, .null, .null, .null, .null, .null, .int 0]) (ty := .object RX4) (y := yX4_init) (yc := cX4_init) (rm := { frames := 1, cells := 15, slots := 128, locals := 40 }) (X := ((([] : va_W) ++ sl cs 3 mZ f3) ++ sl cs 4 mZ f4)) F hE hAA hin hlzls hl0ls (fun o sz => mi4) (nwF4 (a := 14) (b := 42) (by decide +kernel) (by decide +kernel) ⟨Nat.le_of_ble_eq_true rfl, Nat.le_of_ble_eq_true rfl⟩) ⟨by decide, by decide +kernel, wq_at (i := 18) (by decide +kernel), rfl, by decide +kernel, fun a => ⟨rfl, rfl⟩⟩ rfl hP2 hD2 hS2 (Nat.le_of_ble_eq_true rfl) (Nat.le_of_ble_eq_true rfl) (ckD_s (by decide +kernel)) (ckD_s (by decide +kernel)) (ckD_s (by decide +kernel)) (ckD_s (by decide +kernel)) (ckD_s (by decide +kernel)) (fun g4 H3 locs3 hu3 hP3 hD3 hS3 => ?_)
  refine W.eq (g2 := F0 m 37 ls []) rfl ?_
  refine put_obj (adr := fun f : Nat → Nat => f 0) (pst := fun _ => True) (w := fun f => sl cs 1 mZ f) (ci := 1) (N := 9) (i1 := 26) (i2 := 28) (maxL := 1) (mc := 5) (ms := 96) (c0 := 6) (k := 3) (i3 := 29) (o := o) (fs := [.ref (f3 0), .ref (f4 0), .ref (g4 0), .null, .null, .null, .null, .null, .null, .int 0]) (ty := .object RX1) (y := yX1_init) (yc := cX1_init) (rm := { frames := 1, cells := 5, slots := 96, locals := 40 }) (X := (((([] : va_W) ++ sl cs 3 mZ f3) ++ sl cs 4 mZ f4) ++ sl cs 4 mZ g4)) F hE hAA hin hlzls hl0ls (fun o sz => mi1) (nwF1 (a := 19) (b := 62) (by decide +kernel) (by decide +kernel) ⟨Nat.le_of_ble_eq_true rfl, Nat.le_of_ble_eq_true rfl⟩) ⟨by decide, by decide +kernel, wq_at (i := 22) (by decide +kernel), rfl, by decide +kernel, fun a => ⟨rfl, rfl⟩⟩ rfl hP3 hD3 hS3 (Nat.le_of_ble_eq_true rfl) (Nat.le_of_ble_eq_true rfl) (ckD_s (by decide +kernel)) (ckD_s (by decide +kernel)) (ckD_s (by decide +kernel)) (ckD_s (by decide +kernel)) (ckD_s (by decide +kernel)) (fun f1 H4 locs4 hu4 hP4 hD4 hS4 => ?_)
  refine W.eq (g2 := F0 m 48 ls []) rfl ?_
  refine put_row (C := RX1) (L := 1) (N := 2) (t0 := 2) (i1 := 26) (c0 := 6) (k := 4) (i3 := 33) (o := o) (fs := [.ref (f3 0), .ref (f4 0), .ref (g4 0), .ref (f1 0), .null, .null, .null, .null, .null, .int 0]) (X := ((((([] : va_W) ++ sl cs 3 mZ f3) ++ sl cs 4 mZ f4) ++ sl cs 4 mZ g4) ++ sl cs 1 mZ f1)) (ty := .array (.object RX1)) F hE hAA hin hl0ls (wq_at (i := 19) (by decide +kernel)) hE.2.1 rfl (by decide) ⟨by decide, by decide +kernel, wq_at (i := 23) (by decide +kernel), rfl, by decide +kernel, fun a => ⟨rfl, rfl⟩⟩ rfl hP4 hD4 hS4 (Nat.le_of_ble_eq_true rfl) (Nat.le_of_ble_eq_true rfl) (ckD_s (by decide +kernel)) (by decide +kernel) (ckD_s (by decide +kernel)) (ckD_s (by decide +kernel)) (fun a H20 locs20 hP20 hD20 hS20 => ?_)
  refine W.eq (g2 := F0 m 56 ls []) rfl ?_
  refine lv_iconst (v := nI 0) F.1 F.2.1 (n := 0) (ckD_s (by decide +kernel)) nI0 ?_
  refine lv_istore_n (k := 1) F.1 F.2.1 (ckD_s (by decide +kernel)) rfl hl (by decide) rfl (fun ls1 hl1 => ?_)
  refine W.eq (g2 := F0 m 58 ls1 []) rfl ?_
  refine fill_loop (o := o) (a := a) (c0 := 6) (kf := 4) (i0 := 33) (i1 := 26) (i2 := 28) (h := 58) (n := 2) (t0 := 2) (ci := 1) (N := 9) (maxL := 1) (mc := 5) (ms := 96) (C1 := 53) (S1 := 1020) (fs := [.ref (f3 0), .ref (f4 0), .ref (g4 0), .ref (f1 0), .ref a, .null, .null, .null, .null, .int 0]) (y := yX1_init) (yc := cX1_init) (rm := { frames := 1, cells := 5, slots := 96, locals := 40 }) (P1 := ((o, .inr (6, [.ref (f3 0), .ref (f4 0), .ref (g4 0), .ref (f1 0), .ref a, .null, .null, .null, .null, .int 0])) :: ((((([] : va_W) ++ sl cs 3 mZ f3) ++ sl cs 4 mZ f4) ++ sl cs 4 mZ g4) ++ sl cs 1 mZ f1))) (Y := []) (off := -21)
    F hE hAA (by decide) (by decide) rfl (by decide +kernel) (wq_at (i := 23) (by decide +kernel)) rfl (fun o sz => mi1) (nwF1 (a := 19) (b := 62) (by decide +kernel) (by decide +kernel) ⟨Nat.le_of_ble_eq_true rfl, Nat.le_of_ble_eq_true rfl⟩) rfl (by decide) ?_ (ckD_s (by decide +kernel)) (ckD_s (by decide +kernel)) (ckD_s (by decide +kernel)) (ckD_s (by decide +kernel)) (ckD_s (by decide +kernel)) (ckD_s (by decide +kernel)) (ckD_s (by decide +kernel)) (ckD_s (by decide +kernel)) (ckD_s (by decide +kernel)) (by decide) (Nat.le_of_ble_eq_true rfl) (Nat.le_of_ble_eq_true rfl) ?_ 2 [] _ _ H20 locs20 ls1 rfl (Nat.le_of_ble_eq_true rfl) (Nat.le_of_ble_eq_true rfl) hl1 hP20 hD20 hS20
  · intro i ls H locs cells slots hi hls k1 k2
    refine lv_iload_n F.1 F.2.1 (k := 1) (ckD_s (by decide +kernel)) rfl hls ?_
    refine lv_iconst (v := nI 2) F.1 F.2.1 (n := 2) (ckD_s (by decide +kernel)) (by decide +kernel) ?_
    refine lv_icmp_ge (tgt := 82) F.1 F.2.1 (off := 22) (ckD_s (by decide +kernel)) (by decide) (fun q => ?_) (fun q => ?_)
    · have q := (nI_leI (by omega) (by omega)).mp q
      exact k2 (by omega)
    · have q : ¬ 2 ≤ i := fun q9 => q (nI_le q9 (by omega))
      exact k1 (by omega)
  intro gs ls2 H21 locs21 hg hl2 hP21 hD21 hS21
  have hlzls2 : ls2.size = 2 := hl2.1
  have hl0ls2 : ls2[0]? = some (.val (.ref o)) := lv_at hl2 1 rfl
  refine W.eq (g2 := F0 m 82 ls2 []) rfl ?_
  refine put_obj (adr := fun f : Nat → Nat => f 0) (pst := fun _ => True) (w := fun f => sl cs 0 mZ f) (ci := 0) (N := 6) (i1 := 37) (i2 := 39) (maxL := 1) (mc := 5) (ms := 64) (c0 := 6) (k := 5) (i3 := 40) (o := o) (fs := [.ref (f3 0), .ref (f4 0), .ref (g4 0), .ref (f1 0), .ref a, .null, .null, .null, .null, .int 0]) (ty := .object RX0) (y := yX0_init) (yc := cX0_init) (rm := { frames := 1, cells := 5, slots := 64, locals := 40 }) (X := (((((([] : va_W) ++ sl cs 3 mZ f3) ++ sl cs 4 mZ f4) ++ sl cs 4 mZ g4) ++ sl cs 1 mZ f1) ++ ((a, .inl (cs 2, 2, .inr (.inr (.inr (.inr (refsOf gs)))))) : Nat × va_E) :: ([] ++ gs.flatMap (sl cs 1 mZ)))) F hE hAA hin hlzls2 hl0ls2 (fun o sz => mio0) (nwF0 (a := 24) (b := 71) (by decide +kernel) (by decide +kernel) ⟨Nat.le_of_ble_eq_true rfl, Nat.le_of_ble_eq_true rfl⟩) ⟨by decide, by decide +kernel, wq_at (i := 27) (by decide +kernel), rfl, by decide +kernel, fun a => ⟨rfl, rfl⟩⟩ rfl hP21 hD21 hS21 (Nat.le_of_ble_eq_true rfl) (Nat.le_of_ble_eq_true rfl) (ckD_s (by decide +kernel)) (ckD_s (by decide +kernel)) (ckD_s (by decide +kernel)) (ckD_s (by decide +kernel)) (ckD_s (by decide +kernel)) (fun f0 H5 locs5 hu5 hP5 hD5 hS5 => ?_)
  refine W.eq (g2 := F0 m 93 ls2 []) rfl ?_
  refine put_obj (adr := fun f : Nat → Nat => f 0) (pst := fun _ => True) (w := fun f => sl cs 0 mZ f) (ci := 0) (N := 6) (i1 := 37) (i2 := 39) (maxL := 1) (mc := 5) (ms := 64) (c0 := 6) (k := 6) (i3 := 44) (o := o) (fs := [.ref (f3 0), .ref (f4 0), .ref (g4 0), .ref (f1 0), .ref a, .ref (f0 0), .null, .null, .null, .int 0]) (ty := .object RX0) (y := yX0_init) (yc := cX0_init) (rm := { frames := 1, cells := 5, slots := 64, locals := 40 }) (X := ((((((([] : va_W) ++ sl cs 3 mZ f3) ++ sl cs 4 mZ f4) ++ sl cs 4 mZ g4) ++ sl cs 1 mZ f1) ++ ((a, .inl (cs 2, 2, .inr (.inr (.inr (.inr (refsOf gs)))))) : Nat × va_E) :: ([] ++ gs.flatMap (sl cs 1 mZ))) ++ sl cs 0 mZ f0)) F hE hAA hin hlzls2 hl0ls2 (fun o sz => mio0) (nwF0 (a := 24) (b := 71) (by decide +kernel) (by decide +kernel) ⟨Nat.le_of_ble_eq_true rfl, Nat.le_of_ble_eq_true rfl⟩) ⟨by decide, by decide +kernel, wq_at (i := 28) (by decide +kernel), rfl, by decide +kernel, fun a => ⟨rfl, rfl⟩⟩ rfl hP5 hD5 hS5 (Nat.le_of_ble_eq_true rfl) (Nat.le_of_ble_eq_true rfl) (ckD_s (by decide +kernel)) (ckD_s (by decide +kernel)) (ckD_s (by decide +kernel)) (ckD_s (by decide +kernel)) (ckD_s (by decide +kernel)) (fun g0 H6 locs6 hu6 hP6 hD6 hS6 => ?_)
  refine W.eq (g2 := F0 m 104 ls2 []) rfl ?_
  refine put_obj (adr := fun u : (Nat → Nat) × List (Nat → Nat) × List (Nat → Nat) => u.1 0) (pst := pst5) (w := w5 cs) (ci := 5) (N := 10) (i1 := 47) (i2 := 49) (maxL := 2) (mc := 71) (ms := 794) (c0 := 6) (k := 7) (i3 := 50) (o := o) (fs := [.ref (f3 0), .ref (f4 0), .ref (g4 0), .ref (f1 0), .ref a, .ref (f0 0), .ref (g0 0), .null, .null, .int 0]) (ty := .object RX5) (y := yX5_init) (yc := cX5_init) (rm := { frames := 2, cells := 71, slots := 794, locals := 80 }) (X := (((((((([] : va_W) ++ sl cs 3 mZ f3) ++ sl cs 4 mZ f4) ++ sl cs 4 mZ g4) ++ sl cs 1 mZ f1) ++ ((a, .inl (cs 2, 2, .inr (.inr (.inr (.inr (refsOf gs)))))) : Nat × va_E) :: ([] ++ gs.flatMap (sl cs 1 mZ))) ++ sl cs 0 mZ f0) ++ sl cs 0 mZ g0)) F hE hAA hin hlzls2 hl0ls2 (fun o sz => mi5) (nwF5 (a := 29) (b := 80) (by decide +kernel) (by decide +kernel) ⟨Nat.le_of_ble_eq_true rfl, Nat.le_of_ble_eq_true rfl⟩) ⟨by decide, by decide +kernel, wq_at (i := 32) (by decide +kernel), rfl, by decide +kernel, fun a => ⟨rfl, rfl⟩⟩ rfl hP6 hD6 hS6 (Nat.le_of_ble_eq_true rfl) (Nat.le_of_ble_eq_true rfl) (ckD_s (by decide +kernel)) (ckD_s (by decide +kernel)) (ckD_s (by decide +kernel)) (ckD_s (by decide +kernel)) (ckD_s (by decide +kernel)) (fun u5 H7 locs7 hu7 hP7 hD7 hS7 => ?_)
  refine W.eq (g2 := F0 m 115 ls2 []) rfl ?_
  refine put_obj (adr := fun f : Nat → Nat => f 0) (pst := fun _ => True) (w := w2 cs) (ci := 2) (N := 3) (i1 := 54) (i2 := 56) (maxL := 2) (mc := 7) (ms := 172) (c0 := 6) (k := 8) (i3 := 57) (o := o) (fs := [.ref (f3 0), .ref (f4 0), .ref (g4 0), .ref (f1 0), .ref a, .ref (f0 0), .ref (g0 0), .ref (u5.1 0), .null, .int 0]) (ty := .object RX2) (y := yX2_init) (yc := cX2_init) (rm := { frames := 1, cells := 7, slots := 172, locals := 40 }) (X := ((((((((([] : va_W) ++ sl cs 3 mZ f3) ++ sl cs 4 mZ f4) ++ sl cs 4 mZ g4) ++ sl cs 1 mZ f1) ++ ((a, .inl (cs 2, 2, .inr (.inr (.inr (.inr (refsOf gs)))))) : Nat × va_E) :: ([] ++ gs.flatMap (sl cs 1 mZ))) ++ sl cs 0 mZ f0) ++ sl cs 0 mZ g0) ++ w5 cs u5)) F hE hAA hin hlzls2 hl0ls2 (fun o sz => mi2) (nwF2 (a := 33) (b := 91) (by decide +kernel) (by decide +kernel) ⟨Nat.le_of_ble_eq_true rfl, Nat.le_of_ble_eq_true rfl⟩) ⟨by decide, by decide +kernel, wq_at (i := 36) (by decide +kernel), rfl, by decide +kernel, fun a => ⟨rfl, rfl⟩⟩ rfl hP7 hD7 hS7 (Nat.le_of_ble_eq_true rfl) (Nat.le_of_ble_eq_true rfl) (ckD_s (by decide +kernel)) (ckD_s (by decide +kernel)) (ckD_s (by decide +kernel)) (ckD_s (by decide +kernel)) (ckD_s (by decide +kernel)) (fun f2 H8 locs8 hu8 hP8 hD8 hS8 => ?_)
  refine W.eq (g2 := F0 m 126 ls2 []) rfl ?_
  refine W.vret F.1 F.2.1 hr (fun t ht _ => ⟨⟨((o, a), f3, f4, g4, f1, gs, f0, g0, u5, f2), rfl, ⟨rfl, hg, hu7⟩, ?_, hD8⟩, hS8.F ht⟩) hS8.2.2 (ckD_s (by decide +kernel)) hlocks
  rw [ht]
  exact hP8
end FWI
end
section
/-! THE WORLD behind the constructor: every cell of the abstract memory has its address. -/
def mIz : Mem_ := fun c _ p j => if c = 2 ∧ p = 1 then szF 4 j else if c = 6 ∧ p = 0 ∧ j = 2 then 1 else 0
def adr (u : S6_) (f7 st : Nat → Nat) (b : Nat) : AD_ := fun c n p => match c with
  | 0 => ((u.2.2.2.2.2.2.1 :: u.2.2.2.2.2.2.2.1 :: (u.2.2.2.2.2.2.2.2.1.2.1 ++ u.2.2.2.2.2.2.2.2.1.2.2)).getD n (fun _ => 0)) p
  | 1 => ((u.2.2.2.2.1 :: u.2.2.2.2.2.1).getD n (fun _ => 0)) p
  | 2 => u.2.2.2.2.2.2.2.2.2 p
  | 3 => u.2.1 p
  | 4 => ([u.2.2.1, u.2.2.2.1].getD n (fun _ => 0)) p
  | 5 => u.2.2.2.2.2.2.2.2.1.1 p
  | 6 => bif p.beq 0 then u.1.1 else u.1.2
  | 7 => f7 p
  | 8 => b
  | 9 => st n
  | _ => 0
def smp (c : Nat) : Bool := ((List.range (rcl c).2.2).all fun k => (fkd c k).blt 2) && (prts c).all fun p => p.beq 0 || (aty c p).blt 2
theorem cells_c : ∀ x ∈ cellsB, x.1 < 7 ∧ x.2.1 < cnts.getD x.1 0 ∧ x.2.2 ∈ prts x.1 := by
  intro x hx
  unfold cellsB at hx
  obtain ⟨c, hc, hx⟩ := List.mem_flatMap.mp hx
  obtain ⟨n, hn, hx⟩ := List.mem_flatMap.mp hx
  obtain ⟨p, hp, rfl⟩ := List.mem_map.mp hx
  exact ⟨List.mem_range.mp hc, List.mem_range.mp hn, hp⟩
theorem cells_0 : cellsL 0 = cellsB := List.append_nil _
theorem refs_eq {c : ClassId} {N : Nat} {f g : Nat → Option Nat} (h : ∀ i, i < N → f i = g i) : vp_cell c (N, .inr (.inr (.inr (.inr f)))) = vp_cell c (N, .inr (.inr (.inr (.inr g)))) := by
  rw [vp_cell_q, vp_cell_q]
  unfold arrV
  congr 1
  congr 1
  funext j
  show va_rf (f j.val) = va_rf (g j.val)
  rw [h j.val j.isLt]
theorem prts_0 : prts 0 = [0, 2, 3, 4, 5, 6] := by decide +kernel
theorem prts_1 : prts 1 = [0, 2, 3, 4, 7, 8] := by decide +kernel
theorem prts_2 : prts 2 = [0, 1, 2, 3, 4, 5, 6, 7] := by decide +kernel
theorem prts_3 : prts 3 = [0, 1] := by decide +kernel
theorem prts_4 : prts 4 = [0, 5, 6, 7, 8, 9, 10, 11, 12, 13, 14, 15, 16, 17, 18, 19] := by decide +kernel
theorem prts_5 : prts 5 = [0, 1, 3, 5, 6, 7] := by decide +kernel
theorem prts_6 : prts 6 = [0, 5] := by decide +kernel
section WOF
variable {D : va_G} {cs : Nat → ClassId} {H : Heap} {ad : AD_} {O : Mem_}
theorem sm_at {c n p : Nat} {f : Nat → Nat} (hs : ∀ y ∈ sl cs c mZ f, va_at D vwCl y H) (hp : p ∈ prts c) (hc : smp c = true) (hf : ∀ p, ad c n p = f p) (hO : ∀ p, O c n p = fun _ => 0) : va_at D vwCl (ad c n p, cel ad cs O (c, n, p)) H := by
  have e : (ad c n p, cel ad cs O (c, n, p)) = (f p, cel (fun _ _ p => f p) cs mZ (c, 0, p)) := by
    unfold smp at hc
    rw [Bool.and_eq_true] at hc
    cases p with
    | zero =>
      rw [hf]
      refine congrArg (Prod.mk (f 0)) ?_
      simp only [cel, fls]
      refine congrArg (fun l => (Sum.inr (c, l) : va_E)) (List.map_congr_left fun k hk => ?_)
      have h1 := Nat.blt_eq.mp (List.all_eq_true.mp hc.1 k hk)
      generalize fkd c k = z at h1
      match z, h1 with
      | 0, _ =>
        show Value.int (O c n 0 k) = Value.int 0
        rw [hO]
      | 1, _ =>
        show Value.ref (ad c n (k + 1)) = Value.ref (f (k + 1))
        rw [hf]
    | succ p =>
      rw [hf]
      refine congrArg (Prod.mk (f (p + 1))) ?_
      have h1 := List.all_eq_true.mp hc.2 _ hp
      have h2 : (aty c (p + 1)).blt 2 = true := by
        rw [Bool.or_eq_true] at h1
        rcases h1 with h1 | h1
        · cases h1
        · exact h1
      simp only [cel, h2, cond_true, hO]
      rfl
  rw [e]
  exact hs _ (List.mem_map.mpr ⟨p, hp, rfl⟩)
theorem sm_all : smp 0 = true ∧ smp 1 = true ∧ smp 3 = true ∧ smp 4 = true := by decide +kernel
theorem all_at {ws : va_W} (h : va_P D vwCl ws H) : ∀ x ∈ ws, va_at D vwCl x H := fun x hx => by
  obtain ⟨k, hk⟩ := List.getElem?_of_mem hx
  exact h k x hk
def tgT : List (Nat × Nat × Nat) := [(6, 0, 0), (3, 0, 0), (3, 0, 1), (4, 0, 0), (4, 0, 5), (4, 0, 6), (4, 0, 7), (4, 0, 8), (4, 0, 9), (4, 0, 10), (4, 0, 11), (4, 0, 12), (4, 0, 13), (4, 0, 14), (4, 0, 15), (4, 0, 16), (4, 0, 17), (4, 0, 18), (4, 0, 19), (4, 1, 0), (4, 1, 5), (4, 1, 6), (4, 1, 7), (4, 1, 8), (4, 1, 9), (4, 1, 10), (4, 1, 11), (4, 1, 12), (4, 1, 13), (4, 1, 14), (4, 1, 15), (4, 1, 16), (4, 1, 17), (4, 1, 18), (4, 1, 19), (1, 0, 0), (1, 0, 2), (1, 0, 3), (1, 0, 4), (1, 0, 7), (1, 0, 8), (6, 0, 5), (1, 1, 0), (1, 1, 2), (1, 1, 3), (1, 1, 4), (1, 1, 7), (1, 1, 8), (1, 2, 0), (1, 2, 2), (1, 2, 3), (1, 2, 4), (1, 2, 7), (1, 2, 8), (0, 0, 0), (0, 0, 2), (0, 0, 3), (0, 0, 4), (0, 0, 5), (0, 0, 6), (0, 1, 0), (0, 1, 2), (0, 1, 3), (0, 1, 4), (0, 1, 5), (0, 1, 6), (5, 0, 0), (5, 0, 1), (5, 0, 3), (5, 0, 5), (5, 0, 6), (5, 0, 7), (0, 2, 0), (0, 2, 2), (0, 2, 3), (0, 2, 4), (0, 2, 5), (0, 2, 6), (0, 3, 0), (0, 3, 2), (0, 3, 3), (0, 3, 4), (0, 3, 5), (0, 3, 6), (0, 4, 0), (0, 4, 2), (0, 4, 3), (0, 4, 4), (0, 4, 5), (0, 4, 6), (0, 5, 0), (0, 5, 2), (0, 5, 3), (0, 5, 4), (0, 5, 5), (0, 5, 6), (0, 6, 0), (0, 6, 2), (0, 6, 3), (0, 6, 4), (0, 6, 5), (0, 6, 6), (0, 7, 0), (0, 7, 2), (0, 7, 3), (0, 7, 4), (0, 7, 5), (0, 7, 6), (0, 8, 0), (0, 8, 2), (0, 8, 3), (0, 8, 4), (0, 8, 5), (0, 8, 6), (0, 9, 0), (0, 9, 2), (0, 9, 3), (0, 9, 4), (0, 9, 5), (0, 9, 6), (0, 10, 0), (0, 10, 2), (0, 10, 3), (0, 10, 4), (0, 10, 5), (0, 10, 6), (0, 11, 0), (0, 11, 2), (0, 11, 3), (0, 11, 4), (0, 11, 5), (0, 11, 6), (0, 12, 0), (0, 12, 2), (0, 12, 3), (0, 12, 4), (0, 12, 5), (0, 12, 6), (2, 0, 0), (2, 0, 1), (2, 0, 2), (2, 0, 3), (2, 0, 4), (2, 0, 5), (2, 0, 6), (2, 0, 7)]
theorem tgT_all : ∀ x ∈ cellsB, x ∈ tgT := by decide +kernel
def fkl (c : Nat) : List (Nat × Nat) := (List.range (rcl c).2.2).map fun k => (k, fkd c k)
def ptl (c : Nat) : List (Nat × Nat × Nat) := (prts c).tail.map fun p => (p, aty c p, aln c p)
theorem fkl_2 : fkl 2 = [(0, 1), (1, 1), (2, 1)] := by decide +kernel
theorem fkl_5 : fkl 5 = [(0, 1), (1, 0), (2, 1), (3, 0), (4, 1), (5, 1), (6, 1), (7, 0), (8, 0), (9, 0)] := by decide +kernel
theorem fkl_6 : fkl 6 = [(0, 51), (1, 2), (2, 2), (3, 19), (4, 1), (5, 3), (6, 4), (7, 83), (8, 35), (9, 0)] := by decide +kernel
theorem fls_eq {c n : Nat} : fls ad O c n = (fkl c).map fun q => cv ad (gfv q.2 c n q.1 O) := by
  unfold fls fkl
  rw [List.map_map]
  rfl
theorem dfs_eq {c : Nat} : dfv c = (fkl c).map fun q => if q.2 = 0 then .int 0 else .null := by
  unfold dfv fkl
  rw [List.map_map]
  rfl
theorem sl_eq {c : Nat} {f : Nat → Nat} (hs : smp c = true) (hz0 : 0 ∉ (prts c).tail) : sl cs c mZ f = (f 0, .inr (c, (fkl c).map fun q => if q.2 = 0 then .int 0 else .ref (f (q.1 + 1)))) :: (ptl c).map fun t => (f t.1, .inl (cs t.2.1, t.2.2, .inl fun _ => 0)) := by
  unfold smp at hs
  rw [Bool.and_eq_true] at hs
  unfold sl ptl
  rw [show prts c = 0 :: (prts c).tail from rfl, List.map_cons, List.map_map, List.tail_cons]
  refine congr (congrArg List.cons ?_) (List.map_congr_left fun p hp => ?_)
  · refine congrArg (Prod.mk (f 0)) ?_
    simp only [cel]
    rw [fls_eq]
    refine congrArg (fun l => (Sum.inr (c, l) : va_E)) (List.map_congr_left fun q hq => ?_)
    obtain ⟨k, hk, rfl⟩ := List.mem_map.mp hq
    have h1 := Nat.blt_eq.mp (List.all_eq_true.mp hs.1 k hk)
    show cv _ (gfv (fkd c k) c 0 k mZ) = if fkd c k = 0 then Value.int 0 else Value.ref (f (k + 1))
    generalize fkd c k = z at h1
    match z, h1 with
    | 0, _ => rfl
    | 1, _ => rfl
  · have h1 := List.all_eq_true.mp hs.2 p (List.mem_cons_of_mem _ hp)
    rw [Bool.or_eq_true] at h1
    cases p with
    | zero =>
      exfalso
      exact hz0 hp
    | succ p =>
      have h2 : (aty c (p + 1)).blt 2 = true := by
        rcases h1 with h1 | h1
        · cases h1
        · exact h1
      simp only [cel, h2, cond_true, Function.comp]
      rfl
theorem l_cons {α : Type} {n : Nat} {l : List α} (h : l.length = n + 1) : ∃ a t, l = a :: t ∧ t.length = n := by
  cases l with
  | nil => cases h
  | cons a t => exact ⟨a, t, rfl, Nat.succ.inj h⟩
set_option maxRecDepth 40000 in
theorem tag7 {cs : Nat → ClassId} {o a b : Nat} {f3 f4 g4 f1 s1 s2 f0 g0 f5 m0 m1 m2 m3 m4 m5 k0 k1 k2 k3 k4 f2 st f7 : Nat → Nat} : ((w6 cs ((o, a), f3, f4, g4, f1, [s1, s2], f0, g0, (f5, [m0, m1, m2, m3, m4, m5], [k0, k1, k2, k3, k4]), f2) : va_W).map fun x => x.1) = tgT.map fun x => adr ((o, a), f3, f4, g4, f1, [s1, s2], f0, g0, (f5, [m0, m1, m2, m3, m4, m5], [k0, k1, k2, k3, k4]), f2) f7 st b x.1 x.2.1 x.2.2 := by
  simp only [w6, w5, w2, sl, prts_0, prts_1, prts_3, prts_4, List.map_cons, List.map_nil, List.flatMap_cons, List.flatMap_nil, List.cons_append, List.nil_append, List.append_nil]
  rfl
set_option maxRecDepth 40000 in
set_option maxHeartbeats 4000000 in
theorem wo_of {u : S6_} {b : Nat} {st f7 : Nat → Nat} (hu : pst6 u) (hP : va_P D vwCl (w6 cs u) H) :
    va_P D vwCl (wo 0 (adr u f7 st b) cs mIz) H ∧ ((w6 cs u : va_W).map fun x => x.1) = tgT.map fun x => adr u f7 st b x.1 x.2.1 x.2.2 := by
  obtain ⟨⟨o, a⟩, f3, f4, g4, f1, gs, f0, g0, ⟨f5, ms, ks⟩, f2⟩ := u
  obtain ⟨hg, hm, hk⟩ := hu
  obtain ⟨s1, s2, rfl⟩ : ∃ a b, gs = [a, b] := by
    match gs, hg with
    | [a, b], _ => exact ⟨a, b, rfl⟩
  obtain ⟨m0, m1, m2, m3, m4, m5, rfl⟩ : ∃ a b c d e f, ms = [a, b, c, d, e, f] := by
    match ms, hm with
    | [a, b, c, d, e, f], _ => exact ⟨a, b, c, d, e, f, rfl⟩
  obtain ⟨k0, k1, k2, k3, k4, rfl⟩ : ∃ a b c d e, ks = [a, b, c, d, e] := by
    match ks, hk with
    | [a, b, c, d, e], _ => exact ⟨a, b, c, d, e, rfl⟩
  refine ⟨?_, tag7⟩
  obtain ⟨sm0, sm1, sm3, sm4⟩ := sm_all
  have hT := all_at hP
  obtain ⟨h60, hT⟩ := List.forall_mem_cons.mp hT
  obtain ⟨hT, h2⟩ := List.forall_mem_append.mp hT
  obtain ⟨hT, h5⟩ := List.forall_mem_append.mp hT
  obtain ⟨hT, hg0⟩ := List.forall_mem_append.mp hT
  obtain ⟨hT, hf0⟩ := List.forall_mem_append.mp hT
  obtain ⟨hT, hR⟩ := List.forall_mem_append.mp hT
  obtain ⟨hT, hf1⟩ := List.forall_mem_append.mp hT
  obtain ⟨hT, hg4⟩ := List.forall_mem_append.mp hT
  obtain ⟨hT, hf4⟩ := List.forall_mem_append.mp hT
  obtain ⟨-, hf3⟩ := List.forall_mem_append.mp hT
  obtain ⟨hrow, hR⟩ := List.forall_mem_cons.mp hR
  have hR : ∀ y ∈ sl cs 1 mZ s1 ++ (sl cs 1 mZ s2 ++ []), va_at D vwCl y H := hR
  obtain ⟨hs1, hR⟩ := List.forall_mem_append.mp hR
  obtain ⟨hs2, -⟩ := List.forall_mem_append.mp hR
  obtain ⟨h5, hM⟩ := List.forall_mem_append.mp h5
  obtain ⟨hM, hK⟩ := List.forall_mem_append.mp hM
  have hM : ∀ y ∈ sl cs 0 mZ m0 ++ (sl cs 0 mZ m1 ++ (sl cs 0 mZ m2 ++ (sl cs 0 mZ m3 ++ (sl cs 0 mZ m4 ++ (sl cs 0 mZ m5 ++ []))))), va_at D vwCl y H := hM
  have hK : ∀ y ∈ sl cs 0 mZ k0 ++ (sl cs 0 mZ k1 ++ (sl cs 0 mZ k2 ++ (sl cs 0 mZ k3 ++ (sl cs 0 mZ k4 ++ [])))), va_at D vwCl y H := hK
  obtain ⟨hm0, hM⟩ := List.forall_mem_append.mp hM
  obtain ⟨hm1, hM⟩ := List.forall_mem_append.mp hM
  obtain ⟨hm2, hM⟩ := List.forall_mem_append.mp hM
  obtain ⟨hm3, hM⟩ := List.forall_mem_append.mp hM
  obtain ⟨hm4, hM⟩ := List.forall_mem_append.mp hM
  obtain ⟨hm5, -⟩ := List.forall_mem_append.mp hM
  obtain ⟨hk0, hK⟩ := List.forall_mem_append.mp hK
  obtain ⟨hk1, hK⟩ := List.forall_mem_append.mp hK
  obtain ⟨hk2, hK⟩ := List.forall_mem_append.mp hK
  obtain ⟨hk3, hK⟩ := List.forall_mem_append.mp hK
  obtain ⟨hk4, -⟩ := List.forall_mem_append.mp hK
  obtain ⟨h50, h5⟩ := List.forall_mem_cons.mp h5
  obtain ⟨h51, h5⟩ := List.forall_mem_cons.mp h5
  obtain ⟨h53, h5⟩ := List.forall_mem_cons.mp h5
  obtain ⟨h55, h5⟩ := List.forall_mem_cons.mp h5
  obtain ⟨h56, h5⟩ := List.forall_mem_cons.mp h5
  obtain ⟨h57, -⟩ := List.forall_mem_cons.mp h5
  obtain ⟨h20, h2⟩ := List.forall_mem_cons.mp h2
  obtain ⟨h21, h2⟩ := List.forall_mem_cons.mp h2
  obtain ⟨h22, h2⟩ := List.forall_mem_cons.mp h2
  obtain ⟨h23, h2⟩ := List.forall_mem_cons.mp h2
  obtain ⟨h24, h2⟩ := List.forall_mem_cons.mp h2
  obtain ⟨h25, h2⟩ := List.forall_mem_cons.mp h2
  obtain ⟨h26, h2⟩ := List.forall_mem_cons.mp h2
  obtain ⟨h27, -⟩ := List.forall_mem_cons.mp h2
  generalize hadr : adr ((o, a), f3, f4, g4, f1, [s1, s2], f0, g0, (f5, [m0, m1, m2, m3, m4, m5], [k0, k1, k2, k3, k4]), f2) f7 st b = ad
  have z0 : ∀ n p, mIz 0 n p = fun _ => 0 := fun n p => funext fun j => by simp [mIz]
  have z1 : ∀ n p, mIz 1 n p = fun _ => 0 := fun n p => funext fun j => by simp [mIz]
  have z3 : ∀ n p, mIz 3 n p = fun _ => 0 := fun n p => funext fun j => by simp [mIz]
  have z4 : ∀ n p, mIz 4 n p = fun _ => 0 := fun n p => funext fun j => by simp [mIz]
  have key : ∀ c n p : Nat, c < 7 → n < cnts.getD c 0 → p ∈ prts c → va_at D vwCl (ad c n p, cel ad cs mIz (c, n, p)) H := by
    intro c n p hc hn hp
    match c, hc with
    | 0, _ =>
      match n, hn with
      | 0, _ => exact sm_at hf0 hp sm0 (fun p => by rw [← hadr]; rfl) (z0 _)
      | 1, _ => exact sm_at hg0 hp sm0 (fun p => by rw [← hadr]; rfl) (z0 _)
      | 2, _ => exact sm_at hm0 hp sm0 (fun p => by rw [← hadr]; rfl) (z0 _)
      | 3, _ => exact sm_at hm1 hp sm0 (fun p => by rw [← hadr]; rfl) (z0 _)
      | 4, _ => exact sm_at hm2 hp sm0 (fun p => by rw [← hadr]; rfl) (z0 _)
      | 5, _ => exact sm_at hm3 hp sm0 (fun p => by rw [← hadr]; rfl) (z0 _)
      | 6, _ => exact sm_at hm4 hp sm0 (fun p => by rw [← hadr]; rfl) (z0 _)
      | 7, _ => exact sm_at hm5 hp sm0 (fun p => by rw [← hadr]; rfl) (z0 _)
      | 8, _ => exact sm_at hk0 hp sm0 (fun p => by rw [← hadr]; rfl) (z0 _)
      | 9, _ => exact sm_at hk1 hp sm0 (fun p => by rw [← hadr]; rfl) (z0 _)
      | 10, _ => exact sm_at hk2 hp sm0 (fun p => by rw [← hadr]; rfl) (z0 _)
      | 11, _ => exact sm_at hk3 hp sm0 (fun p => by rw [← hadr]; rfl) (z0 _)
      | 12, _ => exact sm_at hk4 hp sm0 (fun p => by rw [← hadr]; rfl) (z0 _)
    | 1, _ =>
      match n, hn with
      | 0, _ => exact sm_at hf1 hp sm1 (fun p => by rw [← hadr]; rfl) (z1 _)
      | 1, _ => exact sm_at hs1 hp sm1 (fun p => by rw [← hadr]; rfl) (z1 _)
      | 2, _ => exact sm_at hs2 hp sm1 (fun p => by rw [← hadr]; rfl) (z1 _)
    | 2, _ =>
      match n, hn with
      | 0, _ =>
        rw [prts_2] at hp
        simp only [List.mem_cons, List.not_mem_nil, or_false] at hp
        subst hadr
        rcases hp with rfl | rfl | rfl | rfl | rfl | rfl | rfl | rfl
        · show va_at D vwCl (_, .inr (2, fls _ mIz 2 0)) H
          rw [fls_eq, fkl_2]
          exact h20
        · exact h21
        · exact h22
        · refine Eq.trans (b := some (vp_cell (cs 4) (4, .inr (.inr (.inr (.inr fun i => if i < 4 then some (f2 (4 + i)) else none)))))) h23 (congrArg some (refs_eq fun i hi => ?_))
          match i, hi with
          | 0, _ => rfl
          | 1, _ => rfl
          | 2, _ => rfl
          | 3, _ => rfl
        · exact h24
        · exact h25
        · exact h26
        · exact h27
    | 3, _ =>
      match n, hn with
      | 0, _ => exact sm_at hf3 hp sm3 (fun p => by rw [← hadr]; rfl) (z3 _)
    | 4, _ =>
      match n, hn with
      | 0, _ => exact sm_at hf4 hp sm4 (fun p => by rw [← hadr]; rfl) (z4 _)
      | 1, _ => exact sm_at hg4 hp sm4 (fun p => by rw [← hadr]; rfl) (z4 _)
    | 5, _ =>
      match n, hn with
      | 0, _ =>
        rw [prts_5] at hp
        simp only [List.mem_cons, List.not_mem_nil, or_false] at hp
        subst hadr
        rcases hp with rfl | rfl | rfl | rfl | rfl | rfl
        · show va_at D vwCl (_, .inr (5, fls _ mIz 5 0)) H
          rw [fls_eq, fkl_5]
          exact h50
        · exact h51
        · exact h53
        · exact h55
        · refine Eq.trans (b := some (vp_cell (cs 3) (6, .inr (.inr (.inr (.inr (refsOf [m0, m1, m2, m3, m4, m5]))))))) h56 (congrArg some (refs_eq fun i hi => ?_))
          match i, hi with
          | 0, _ => rfl
          | 1, _ => rfl
          | 2, _ => rfl
          | 3, _ => rfl
          | 4, _ => rfl
          | 5, _ => rfl
        · refine Eq.trans (b := some (vp_cell (cs 3) (5, .inr (.inr (.inr (.inr (refsOf [k0, k1, k2, k3, k4]))))))) h57 (congrArg some (refs_eq fun i hi => ?_))
          match i, hi with
          | 0, _ => rfl
          | 1, _ => rfl
          | 2, _ => rfl
          | 3, _ => rfl
          | 4, _ => rfl
    | 6, _ =>
      match n, hn with
      | 0, _ =>
        rw [prts_6] at hp
        simp only [List.mem_cons, List.not_mem_nil, or_false] at hp
        subst hadr
        rcases hp with rfl | rfl
        · show va_at D vwCl (_, .inr (6, fls _ mIz 6 0)) H
          rw [fls_eq, fkl_6]
          exact h60
        · refine Eq.trans (b := some (vp_cell (cs 2) (2, .inr (.inr (.inr (.inr (refsOf [s1, s2]))))))) hrow (congrArg some (refs_eq fun i hi => ?_))
          match i, hi with
          | 0, _ => rfl
          | 1, _ => rfl
  intro k x hx
  obtain ⟨y, hy, rfl⟩ := List.mem_map.mp (List.mem_of_getElem? hx)
  rw [cells_0] at hy
  obtain ⟨hc, hn, hp⟩ := cells_c y hy
  exact key y.1 y.2.1 y.2.2 hc hn hp
theorem inj_of {A : Nat → Prop} {T : va_W} (hD : va_D A T) (hT : (T.map fun x => x.1) = tgT.map fun x => ad x.1 x.2.1 x.2.2) : Inj_ 0 ad A := by
  have hg : ∀ (k : Nat) (x : Nat × Nat × Nat), tgT[k]? = some x → ∃ e : va_E, T[k]? = some (ad x.1 x.2.1 x.2.2, e) := fun k x hx => by
    have h1 : (T.map fun x => x.1)[k]? = some (ad x.1 x.2.1 x.2.2) := by rw [hT, List.getElem?_map, hx]; rfl
    rw [List.getElem?_map] at h1
    cases hk : T[k]? with
    | none => rw [hk] at h1; cases h1
    | some q =>
      rw [hk] at h1
      have h1 : q.1 = _ := Option.some.inj h1
      exact ⟨q.2, by rw [← h1]⟩
  refine ⟨fun x hx y hy he => ?_, fun x hx => ?_⟩
  · obtain ⟨i, hi⟩ := List.getElem?_of_mem (tgT_all x (by rw [← cells_0]; exact hx))
    obtain ⟨j, hj⟩ := List.getElem?_of_mem (tgT_all y (by rw [← cells_0]; exact hy))
    obtain ⟨e1, h1⟩ := hg i x hi
    obtain ⟨e2, h2⟩ := hg j y hj
    have := hD.1 i j _ _ h1 h2 he
    subst this
    rw [hi] at hj
    exact Option.some.inj hj
  · obtain ⟨i, hi⟩ := List.getElem?_of_mem (tgT_all x (by rw [← cells_0]; exact hx))
    obtain ⟨e1, h1⟩ := hg i x hi
    exact hD.2 i _ h1
end WOF
/-! THE LAW'S ROWS, one by one. -/
theorem cells_at {lw : Nat} {c n p : Nat} (h : (c, n, p) ∈ cellsL lw) : (c, n, p) ∈ cellsB ∨ (c = 7 ∧ n = 0 ∧ p ∈ lawR lw) := by
  unfold cellsL at h
  rcases List.mem_append.mp h with h | h
  · exact Or.inl h
  · obtain ⟨q, hq, e⟩ := List.mem_map.mp h
    cases e
    exact Or.inr ⟨rfl, rfl, hq⟩
theorem base_in {lw : Nat} {x : Nat × Nat × Nat} (h : x ∈ cellsB) : x ∈ cellsL lw := List.mem_append_left _ h
def adu (ad : AD_) (p0 q : Nat) : AD_ := fun c n p => if c = 7 ∧ n = 0 ∧ p = p0 then q else ad c n p
def zer (O : Mem_) (p0 : Nat) : Mem_ := fun c n p j => if c = 7 ∧ n = 0 ∧ p = p0 then 0 else O c n p j
theorem adu_eq (ad : AD_) (p0 q : Nat) : adu ad p0 q 7 0 p0 = q := by unfold adu; rw [if_pos ⟨rfl, rfl, rfl⟩]
theorem adu_ne {ad : AD_} {p0 q c n p : Nat} (h : ¬ (c = 7 ∧ n = 0 ∧ p = p0)) : adu ad p0 q c n p = ad c n p := by unfold adu; rw [if_neg h]
theorem zer_ne {O : Mem_} {p0 c n p : Nat} (h : ¬ (c = 7 ∧ n = 0 ∧ p = p0)) : zer O p0 c n p = O c n p := by funext j; unfold zer; rw [if_neg h]
theorem zer_eq (O : Mem_) (p0 : Nat) : zer O p0 7 0 p0 = fun _ => 0 := by funext j; unfold zer; rw [if_pos ⟨rfl, rfl, rfl⟩]
section GROW
variable {lw lw' p0 q : Nat} {ad : AD_} {cs : Nat → ClassId} {O : Mem_} {A : Nat → Prop}
theorem law_aty_ : ∀ lw, lw < 10 → ∀ p ∈ lawR lw, p ≠ 0 ∧ (aty 7 p = 0 ∨ aty 7 p = 5) := by decide +kernel
theorem lawR_min (lw : Nat) : lawR lw = lawR (min lw 9) := by
  unfold lawR
  rw [Nat.min_eq_left (Nat.min_le_right lw 9)]
theorem law_aty {p : Nat} (h : p ∈ lawR lw) : p ≠ 0 ∧ (aty 7 p = 0 ∨ aty 7 p = 5) := by
  rw [lawR_min] at h
  exact law_aty_ _ (by omega) _ h
theorem cel_adu {c n p : Nat} (hx : (c, n, p) ∈ cellsB) : cel (adu ad p0 q) cs O (c, n, p) = cel ad cs O (c, n, p) := by
  have hc : c < 7 := (cells_c _ hx).1
  cases p with
  | zero =>
    simp only [cel, fls]
    refine congrArg (fun l => (Sum.inr (c, l) : va_E)) (List.map_congr_left fun k hk => ?_)
    have h := cell_fld (lw := 0) (O := O) (base_in hx) (List.mem_range.mp hk)
    revert h
    generalize fkd c k = z
    intro h
    match z, h with
    | 0, _ => rfl
    | 1, _ =>
      show Value.ref (adu ad p0 q c n (k + 1)) = _
      rw [adu_ne (by omega)]
      rfl
    | 2, _ =>
      show Value.ref (adu ad p0 q 4 _ 0) = _
      rw [adu_ne (by omega)]
      rfl
    | m + 3, h =>
      show Value.ref (adu ad p0 q (m / 16) (m % 16) 0) = _
      rw [adu_ne]
      · rfl
      · rintro ⟨e, -, -⟩
        have h : okc 0 (m / 16) (m % 16) 0 := h
        rcases h with h | ⟨h, -⟩ | ⟨h, -⟩
        · have := cell_obj h
          omega
        · omega
        · omega
  | succ p =>
    have hr : ∀ i, rad (adu ad p0 q) (aref c n (p + 1) i) = rad ad (aref c n (p + 1) i) := by
      intro i
      match c, hc with
      | 0, _ => exact adu_ne (by omega)
      | 1, _ => exact adu_ne (by omega)
      | 2, _ => exact adu_ne (by omega)
      | 3, _ => exact adu_ne (by omega)
      | 4, _ => exact adu_ne (by omega)
      | 5, _ =>
        by_cases h6 : p + 1 = 6
        · rw [h6]; exact adu_ne (by omega)
        · have e : aref 5 n (p + 1) i = vr 0 (8 + i) 0 := by
            match p, h6 with
            | 0, _ => rfl
            | 1, _ => rfl
            | 2, _ => rfl
            | 3, _ => rfl
            | 4, _ => rfl
            | 5, h6 => exact absurd rfl h6
            | q + 6, _ => rfl
          rw [e]
          exact adu_ne (by omega)
      | 6, _ => exact adu_ne (by omega)
    simp only [cel, hr]
theorem cel_7 {p : Nat} (h : p ≠ 0) (ht : aty 7 p = 0) : cel ad cs O (7, 0, p) = .inl (cs 0, aln 7 p, .inl (O 7 0 p)) := by
  obtain ⟨p, rfl⟩ : ∃ p', p = p' + 1 := ⟨p - 1, by omega⟩
  exact cel_int (by decide) ht
theorem cel_7L {p : Nat} (h : p ≠ 0) (ht : aty 7 p = 5) : cel ad cs O (7, 0, p) = .inl (cs 5, aln 7 p, .inr (.inl fun i => rdL O 7 0 p i)) := by
  obtain ⟨p, rfl⟩ : ∃ p', p = p' + 1 := ⟨p - 1, by omega⟩
  exact cel_long ht
theorem wo_grow (hl : lawR lw' = lawR lw ++ [p0]) (hp : p0 ∉ lawR lw) : wo lw' (adu ad p0 q) cs (zer O p0) = wo lw ad cs O ++ [(q, cel (adu ad p0 q) cs (zer O p0) (7, 0, p0))] := by
  have hc : cellsL lw' = cellsL lw ++ [(7, 0, p0)] := by
    unfold cellsL
    rw [hl, List.map_append, List.append_assoc]
    rfl
  unfold wo
  rw [hc, List.map_append]
  refine congr (congrArg _ (List.map_congr_left fun x hx => ?_)) ?_
  · obtain ⟨c, n, p⟩ := x
    rcases cells_at hx with h | ⟨rfl, rfl, h⟩
    · have hc7 : c < 7 := (cells_c _ h).1
      refine congr (congrArg Prod.mk (adu_ne (by omega))) ?_
      rw [cel_adu h]
      exact cel_congr (zer_ne (by show ¬ (c = 7 ∧ _); omega))
    · have hne : p ≠ p0 := fun e => hp (e ▸ h)
      obtain ⟨h0, ht⟩ := law_aty h
      refine congr (congrArg Prod.mk (adu_ne (fun z => hne z.2.2))) ?_
      rcases ht with ht | ht
      · rw [cel_7 h0 ht, cel_7 h0 ht, zer_ne (fun z => hne z.2.2)]
      · rw [cel_7L h0 ht, cel_7L h0 ht]
        have e : ∀ i, rdL (zer O p0) 7 0 p i = rdL O 7 0 p i := fun i => rdL_ne (zer_ne (fun z => hne z.2.2))
        simp only [e]
  · show [(adu ad p0 q 7 0 p0, _)] = _
    rw [adu_eq]
theorem inj_of_D (h : va_D A (wo lw ad cs O)) : Inj_ lw ad A := by
  refine ⟨fun x hx y hy he => ?_, fun x hx => ?_⟩
  · obtain ⟨i, hi⟩ := List.getElem?_of_mem hx
    obtain ⟨j, hj⟩ := List.getElem?_of_mem hy
    have := h.1 i j _ _ (wo_get hi) (wo_get hj) he
    subst this
    rw [hi] at hj
    exact Option.some.inj hj
  · obtain ⟨i, hi⟩ := List.getElem?_of_mem hx
    exact h.2 i _ (wo_get hi)
theorem Inj_.less {lw1 : Nat} (h : Inj_ lw ad A) (hs : ∀ x ∈ cellsL lw1, x ∈ cellsL lw) : Inj_ lw1 ad A := ⟨fun x hx y hy e => h.1 x (hs x hx) y (hs y hy) e, fun x hx => h.2 x (hs x hx)⟩
end GROW
section NEWROW
variable {p : Program} {l : Launch} {e : Env} {R : Room} {s : State} {m : MethodId} {args : Array Value} {below : List Frame} {meth : Method} {c : Code} {cells slots : Nat} {Q : State → Prop}
variable {D : va_G} {ad : AD_} {cs : Nat → ClassId} {A : Nat → Prop} {O : Mem_} {lw lw' p0 : Nat} {cb : ByteArray} {pc : Nat} {H H0 : Heap} {locs : List Loc} {ls : Array Slot} {rest : List Value}
/-- a row of numbers of the law's comes to the world -/
theorem nw_row {N : Nat} (hN : N = aln 7 p0) (hx : p.tables.exec = Jvm.exec) (hb : c.code = cb) (hl : lawR lw' = lawR lw ++ [p0]) (hp : p0 ∉ lawR lw) (h0 : p0 ≠ 0) (ht : aty 7 p0 = 0) (hN1 : N ≤ 1000) (harr : (Cond.arrayClass .int).before args s = true) (hK : va_K D vwCl (tyL cs) s) (hP : va_P D vwCl (wo lw ad cs O) H) (hin : Inj_ lw ad A) (hS : va_S A H0 H locs) (hA : ∀ q, H0.size ≤ q → A q) (hcells : cells + 1 ≤ R.cells) (hslots : slots + N ≤ R.slots) (hdg : decode cb pc = .ok (.newarray .int, 2))
    (kk : ∀ (q : Nat) (H1 : Heap), va_P D vwCl (wo lw' (adu ad p0 q) cs (zer O p0)) H1 → Inj_ lw' (adu ad p0 q) A → va_S A H0 H1 locs → W p l e R s m args below meth c H1 locs (cells + 1) (slots + N) Q (F0 m (pc + 2) ls (.ref q :: rest))) :
    W p l e R s m args below meth c H locs cells slots Q (F0 m pc ls (.int (nI N) :: rest)) := by
  subst hN
  refine nw_arr (z := 0) hx hb (by decide) harr hK hP hin.D hS hA hN1 hcells hslots hdg (fun q H1 hP1 hD1 hS1 => ?_)
  have e : wo lw' (adu ad p0 q) cs (zer O p0) = wo lw ad cs O ++ [(q, .inl (cs 0, aln 7 p0, .inl fun _ => 0))] := by
    rw [wo_grow hl hp, cel_7 h0 ht, zer_eq]
  rw [← e] at hP1 hD1
  exact kk q H1 hP1 (inj_of_D hD1) hS1
theorem nw_rowL {N : Nat} (hN : N = aln 7 p0) (hx : p.tables.exec = Jvm.exec) (hb : c.code = cb) (hl : lawR lw' = lawR lw ++ [p0]) (hp : p0 ∉ lawR lw) (h0 : p0 ≠ 0) (ht : aty 7 p0 = 5) (hN1 : N ≤ 1000) (harr : (Cond.arrayClass .long).before args s = true) (hK : va_K D vwCl (tyL cs) s) (hP : va_P D vwCl (wo lw ad cs O) H) (hin : Inj_ lw ad A) (hS : va_S A H0 H locs) (hA : ∀ q, H0.size ≤ q → A q) (hcells : cells + 1 ≤ R.cells) (hslots : slots + N ≤ R.slots) (hdg : decode cb pc = .ok (.newarray .long, 2))
    (kk : ∀ (q : Nat) (H1 : Heap), va_P D vwCl (wo lw' (adu ad p0 q) cs (zer O p0)) H1 → Inj_ lw' (adu ad p0 q) A → va_S A H0 H1 locs → W p l e R s m args below meth c H1 locs (cells + 1) (slots + N) Q (F0 m (pc + 2) ls (.ref q :: rest))) :
    W p l e R s m args below meth c H locs cells slots Q (F0 m pc ls (.int (nI N) :: rest)) := by
  subst hN
  refine va_newa (atype := .long) (ty := .long) (N' := aln 7 p0) (a0 := (aln 7 p0, .inr (.inl fun _ => 0))) hx hb harr rfl hK hP hin.D hS hA (fun cA => rfl) (nI_pos (by omega)) (nI_clamp (by omega)) (by show aln 7 p0 * 8 ≤ 536870912; omega) hcells hslots hdg (fun q cA H1 hK1 hP1 hD1 hS1 => ?_)
  have h1 : s.vm.findClass ("[" ++ FieldType.long.toString) = some cA := (hK1.2 6 (cA, .long) rfl).2
  have h2 : s.vm.findClass ("[" ++ FieldType.long.toString) = some (cs 5) := (hK.2 5 (cs 5, .long) rfl).2
  obtain rfl : cA = cs 5 := Option.some.inj (h1.symm.trans h2)
  have z : ∀ i, rdL (zer O p0) 7 0 p0 i = 0 := fun i => by
    unfold rdL
    rw [zer_eq]
    show lgc 0 0 = 0
    decide
  have e : wo lw' (adu ad p0 q) cs (zer O p0) = wo lw ad cs O ++ [(q, .inl (cs 5, aln 7 p0, .inr (.inl fun _ => 0)))] := by
    rw [wo_grow hl hp, cel_7L h0 ht]
    simp only [z]
  rw [← e] at hP1 hD1
  exact kk q H1 hP1 (inj_of_D hD1) hS1
end NEWROW
end
section
/-! THE LAW'S START: what the tables and the premises give. -/
def R_law : String := "FirstWordsLaw"
def lw_At (p : Program) (s : State) (m : MethodId) (meth : Method) (c : Code) (b L : Nat) (xs : Nat → Int32) : Prop :=
  p.tables.exec = Jvm.exec ∧ c.code = code ∧ meth.sig.returnType = ret ∧ c.maxLocals = 28 ∧ s.vm.findClass R_law = some m.cls ∧ (∀ w ∈ lw_tbl, w.before #[Value.ref b] s = true) ∧ va_X b L xs s s.heap ∧ b < s.heap.size ∧ meth.locks = false ∧ (Jvm.Cond.and given_1 narrow_1).before #[Value.ref b] s = true
def Es (D : va_G) (cs : Nat → ClassId) (st adV : Nat → Nat) (A : Nat → Prop) (s : State) : Prop :=
  va_K D vwCl (tyL cs) s ∧ vk_S 12 sln sT st adV A s s.heap ∧ va_Z RJ0 "COMPACT_STRINGS" "Z" (.int 1) A s s.heap ∧ va_Zq RJ3 "SIOOBE_FORMATTER" "Ljava/util/function/BiFunction;" A s s.heap ∧
  (∀ i : Nat, i < 12 → vk_R RX3 (sdx_.getD i 0) (stx_.getD i "") (st i) s) ∧ ∀ q ∈ nst_, va_Nw (.methodLinkNest q.1 q.2.1 q.2.2.1 q.2.2.2) s
abbrev tmS (i : Nat) : Term := .string RX3 (sdx_.getD i 0)
def flP : List Jvm.Cond := flatC (Jvm.Cond.and given_1 narrow_1)
theorem fp_ex : ∀ i, i < 12 → Cond.exactly (tmS i) "java/lang/String" ∈ flP := by decide +kernel
theorem fp_co : ∀ i, i < 12 → Cond.eq (.field (tmS i) "java/lang/String" "coder" "B") (.int 0) ∈ flP := by decide +kernel
theorem fp_ar : ∀ i, i < 12 → Cond.arrayOf (.field (tmS i) "java/lang/String" "value" "[B") .byte ∈ flP := by decide +kernel
theorem fp_le : ∀ i, i < 12 → Cond.eq (.length (.field (tmS i) "java/lang/String" "value" "[B")) (.int (Int32.ofNat (sln.getD i 0))) ∈ flP := by decide +kernel
theorem fp_el : ∀ i, i < 12 → ∀ j, j < sln.getD i 0 → Cond.eq (.elem (.field (tmS i) "java/lang/String" "value" "[B") (.int (Int32.ofNat j))) (.int ((sT.getD i []).getD j 0)) ∈ flP := by decide +kernel
theorem fp_ne : ∀ i, i < 12 → ∀ j, j < 12 → i ≠ j → Cond.not (Cond.eq (tmS i) (tmS j)) ∈ flP ∨ Cond.not (Cond.eq (tmS j) (tmS i)) ∈ flP := by decide +kernel
theorem fp_st : Cond.eq (.static RJ0 "COMPACT_STRINGS" "Z") (.int 1) ∈ flP ∧ Cond.isRef (.static RJ3 "SIOOBE_FORMATTER" "Ljava/util/function/BiFunction;") ∈ flP := by decide +kernel
theorem tb_st : Cond.laysStatic RJ0 "COMPACT_STRINGS" "Z" ∈ lw_tbl ∧ Cond.laysStatic RJ3 "SIOOBE_FORMATTER" "Ljava/util/function/BiFunction;" ∈ lw_tbl ∧ Cond.initialized RJ0 ∈ lw_tbl ∧ Cond.initialized RJ3 ∈ lw_tbl ∧ Cond.arrayOver (.object RX1) ∈ lw_tbl ∧ Cond.arrayOver (.object RX0) ∈ lw_tbl ∧ Cond.arrayOver (.array .int) ∈ lw_tbl := by decide +kernel
theorem tb_rf : ∀ i, i < 12 → Cond.stringRef RX3 (sdx_.getD i 0) (stx_.getD i "") ∈ lw_tbl := by decide +kernel
theorem tb_ns : ∀ q ∈ nst_, Cond.methodLinkNest q.1 q.2.1 q.2.2.1 q.2.2.2 ∈ lw_tbl := by decide +kernel
end
section
/-! THE LAW'S START: the environment. -/
theorem eq_i {args : Array Value} {s : State} {t : Term} {v : Int32} (h : (Cond.eq t (.int v)).before args s = true) : t.eval args s none [] s = some (.int v) := by
  simp only [Cond.before, Cond.holds, Cond.value] at h
  cases hq : t.eval args s none [] s with
  | none => simp [hq, Term.eval] at h
  | some w =>
    simp [hq, Term.eval] at h
    cases w <;> simp at h
    subst h
    rfl
section ENV
variable {p : Program} {s : State} {m : MethodId} {meth : Method} {c : Code} {b L : Nat} {xs : Nat → Int32}
theorem law_env (C0 : lw_At p s m meth c b L xs) : ∃ (D : va_G) (cs : Nat → ClassId) (st adV : Nat → Nat), Es D cs st adV (fun q => s.heap.size ≤ q) s ∧ Ec D cs s := by
  obtain ⟨hx, hb, hr, hml, hown, hts, hX, hbl, hlocks, hgv⟩ := C0
  have hf : ∀ c ∈ flP, c.before #[Value.ref b] s = true := flat_of_before _ hgv
  have htw : ∀ w ∈ wsL_law, w.before #[Value.ref b] s = true := fun w hw => hts w (wsL_law_in w hw)
  have hA : ∀ a : Nat, a < s.heap.size → ¬ s.heap.size ≤ a := fun a h1 h2 => by omega
  obtain ⟨st, adV, hS, hev⟩ := vk_Sof (A := fun q => s.heap.size ≤ q) (args := #[Value.ref b]) (s := s) (N := 12) (tm := tmS) (len := sln) (byt := sT) (by decide +kernel) (fun i hi => hf _ (fp_ex i hi)) (fun i hi => hf _ (fp_co i hi)) (fun i hi => hf _ (fp_ar i hi)) (fun i hi => hf _ (fp_le i hi)) (fun i hi j hj => hf _ (fp_el i hi j hj)) (fun i j hi hj hij => (fp_ne i hi j hj hij).imp (fun h => hf _ h) (fun h => hf _ h)) hA
  obtain ⟨t1, t2, t3, t4, t5, t6, t7⟩ := tb_st
  obtain ⟨w44, w62, -, -⟩ := wds_n
  obtain ⟨c0, i0, k0⟩ := u_known htw inlX0 (htw _ (wq_at (i := 25) (w := .instantiable RX0 6) (by decide +kernel)))
  obtain ⟨c1, i1, k1⟩ := u_known htw inlX1 (htw _ (wq_at (i := 20) (w := .instantiable RX1 9) (by decide +kernel)))
  obtain ⟨c2, i2, k2⟩ := u_known htw inlX2 (htw _ (wq_at (i := 34) (w := .instantiable RX2 3) (by decide +kernel)))
  obtain ⟨c3, i3, k3⟩ := u_known htw inlX3 (htw _ (wq_at (i := 11) (w := .instantiable RX3 9) (by decide +kernel)))
  obtain ⟨c4, i4, k4⟩ := u_known htw inlX4 (htw _ (wq_at (i := 15) (w := .instantiable RX4 19) (by decide +kernel)))
  obtain ⟨c5, i5, k5⟩ := u_known htw inlX5 (htw _ (wq_at (i := 30) (w := .instantiable RX5 10) (by decide +kernel)))
  obtain ⟨c6, i6, k6⟩ := u_known htw inlX6 (htw _ (wq_at (i := 1) (w := .instantiable RX6 10) (by decide +kernel)))
  obtain ⟨a0, n0, m0, e01, e02, e03⟩ := Cond.arrayClass_spec (htw _ (wq_at w44))
  obtain ⟨a1, n1, m1, e11, e12, e13⟩ := Cond.arrayClass_spec (htw _ (wq_at w62))
  obtain ⟨a5, n5, m5, e51, e52, e53⟩ := Cond.arrayClass_spec (htw _ (wq_at (i := 103) (w := .arrayClass .long) (by decide +kernel)))
  obtain ⟨m2, a2, n2, e21, -, e22, e23, e24⟩ := Cond.arrayOver_spec (hts _ t5)
  obtain ⟨m3, a3, n3, e31, -, e32, e33, e34⟩ := Cond.arrayOver_spec (hts _ t6)
  obtain ⟨m4, a4, n4, e41, e42, e43, e44⟩ := Cond.arrayOver_specA (hts _ t7)
  have hK : va_K (fun c => match c with | 0 => c0 | 1 => c1 | 2 => c2 | 3 => c3 | 4 => c4 | 5 => c5 | _ => c6, fun c => match c with | 0 => i0 | 1 => i1 | 2 => i2 | 3 => i3 | 4 => i4 | 5 => i5 | _ => i6) vwCl (tyL (fun c => match c with | 0 => a0 | 1 => a1 | 2 => a2 | 3 => a3 | 4 => a4 | _ => a5)) s := by
    refine ⟨fun c q hq => ?_, fun k q hk => ?_⟩
    · match c, hq with
      | 0, hq => cases hq; exact k0
      | 1, hq => cases hq; exact k1
      | 2, hq => cases hq; exact k2
      | 3, hq => cases hq; exact k3
      | 4, hq => cases hq; exact k4
      | 5, hq => cases hq; exact k5
      | 6, hq => cases hq; exact k6
      | c + 7, hq => cases hq
    · match k, hk with
      | 0, hk => cases hk; exact ⟨fun N z => ⟨(fun k h => by cases h), n0, e02, m0, e03⟩, e01⟩
      | 1, hk => cases hk; exact ⟨fun N z => ⟨(fun k h => by cases h), n1, e12, m1, e13⟩, e11⟩
      | 2, hk => cases hk; exact ⟨fun N z => ⟨(fun k h => by cases h), n2, e22, m2, e23⟩, n2, m2, e22, e23, e21, e24⟩
      | 3, hk => cases hk; exact ⟨fun N z => ⟨(fun k h => by cases h), n3, e32, m3, e33⟩, n3, m3, e32, e33, e31, e34⟩
      | 4, hk => cases hk; exact ⟨fun N z => ⟨(fun k h => by cases h), n4, e42, m4, e43⟩, e44⟩
      | 5, hk => cases hk; exact ⟨fun N z => ⟨(fun k h => by cases h), n5, e52, m5, e53⟩, e51⟩
      | k + 6, hk => cases hk
  refine ⟨_, _, st, adV, ⟨hK, hS, va_Zof (hts _ t1) (hts _ t3) (eq_i (hf _ fp_st.1)) hA, va_Zqof (hts _ t2) (hts _ t4) (hf _ fp_st.2) hA, fun i hi => vk_R.of (hts _ (tb_rf i hi)) (hev i hi), fun q hq => va_Nw.of rfl (hts _ (tb_ns q hq))⟩, hK, va_AO.of (hts _ t5), va_AO.of (hts _ t6), va_AOA.of (hts _ t7)⟩
end ENV
end
section
/-! THE LAW'S told: behind its row of longs it runs as any method. -/
def mS (L : Nat) (xs : Nat → Int32) : Mem_ := fun c n p j => if c = 8 then (if p = 0 then xs j else nI L) else mIz c n p j
theorem wo_mS {lw : Nat} {ad : AD_} {cs : Nat → ClassId} {L : Nat} {xs : Nat → Int32} : wo lw ad cs (mS L xs) = wo lw ad cs mIz := by
  unfold wo
  refine List.map_congr_left fun x hx => ?_
  have hc := cell_lt (show (x.1, x.2.1, x.2.2) ∈ cellsL lw from hx)
  refine congrArg (Prod.mk _) (cel_congr ?_)
  funext j
  unfold mS
  rw [if_neg (by omega)]
theorem zer_mS {L p0 : Nat} {xs : Nat → Int32} : zer (mS L xs) p0 = mS L xs := by
  funext c n p j
  unfold zer
  split
  · rename_i h
    obtain ⟨rfl, rfl, rfl⟩ := h
    rfl
  · rfl
theorem inj_aw {lw : Nat} {ad : AD_} {A : Nat → Prop} (h : Inj_ lw ad A) : Inj_ lw ad (Aw lw ad) := ⟨h.1, fun x hx => ⟨x, hx, rfl⟩⟩
theorem adu_9 {ad : AD_} {p0 q : Nat} : adu ad p0 q 9 = ad 9 := by
  funext n p
  exact adu_ne (by omega)
theorem Ev.adu {D : va_G} {ad : AD_} {cs : Nat → ClassId} {adV : Nat → Nat} {A : Nat → Prop} {s : State} {p0 q : Nat} (h : Ev D ad cs adV A s) : Ev D (adu ad p0 q) cs adV A s := by
  unfold Ev at h ⊢
  rw [adu_9]
  exact h
theorem Scr.adu {ad : AD_} {A : Nat → Prop} {s : State} {O : Mem_} {p0 q : Nat} (h : Scr ad A s O) : Scr (adu ad p0 q) A s O := by
  unfold Scr at h ⊢
  rw [adu_ne (by omega)]
  exact h
abbrev tArgs (ad : AD_) : List Value := [.ref (ad 6 0 0), .ref (ad 8 0 0), .int 0, .ref (ad 7 0 1), .ref (ad 7 0 2), .ref (ad 7 0 3), .ref (ad 7 0 4), .ref (ad 7 0 5)]
def tPc (D : va_G) (cs : Nat → ClassId) (adV : Nat → Nat) (L0 : Nat) (ad : AD_) (O : Mem_) : Array Value → State → Prop := va_Pc (tArgs ad) (fun U => va_P D vwCl (wo 5 ad cs O) U.heap ∧ Inj_ 5 ad (fun q => L0 ≤ q) ∧ L0 ≤ U.heap.size ∧ va_K D vwCl (tyL cs) U ∧ Ev D ad cs adV (fun q => L0 ≤ q) U ∧ Scr ad (fun q => L0 ≤ q) U O)
def tQc (D : va_G) (cs : Nat → ClassId) (L0 : Nat) (ad : AD_) (O1 : Mem_) : Array Value → State → Outcome → State → Prop := va_Qi (S := Unit) (fun v _ => v = 1) (fun _ t => va_P D vwCl (wo 5 ad cs O1) t.heap) (fun q => L0 ≤ q)
theorem tPc_bl {D : va_G} {cs : Nat → ClassId} {adV : Nat → Nat} {L0 : Nat} {ad : AD_} {O : Mem_} : FrameBlind (tPc D cs adV L0 ad O) := fun _ _ _ _ h => ⟨h.1, h.2.1, h.2.2.1, h.2.2.2.1, va_K.moved (Vm.Alike.refl _) h.2.2.2.2.1, Ev.same rfl rfl h.2.2.2.2.2.1, Scr.same rfl rfl h.2.2.2.2.2.2⟩
theorem ckTo : chkT RLw cL_told 16 (some .boolean) (tbs_.getD 129 []) = true := ck_129
theorem wo_less {lw lw' p0 q : Nat} {D : va_G} {ad : AD_} {cs : Nat → ClassId} {O : Mem_} {H : Heap} (hl : lawR lw' = lawR lw ++ [p0]) (h : va_P D vwCl (wo lw' ad cs O) H) : va_P D vwCl (wo lw ad cs O) H := by
  intro k x hx
  refine h k x ?_
  have hc : cellsL lw' = cellsL lw ++ [(7, 0, p0)] := by
    unfold cellsL
    rw [hl, List.map_append, List.append_assoc]
    rfl
  unfold wo at hx ⊢
  rw [hc, List.map_append, List.getElem?_append_left (List.getElem?_eq_some_iff.mp hx).1]
  exact hx
theorem wo_adu {lw p0 q : Nat} {ad : AD_} {cs : Nat → ClassId} {O : Mem_} (hp : p0 ∉ lawR lw) : wo lw (adu ad p0 q) cs O = wo lw ad cs O := by
  unfold wo
  refine List.map_congr_left fun x hx => ?_
  obtain ⟨c, n, p⟩ := x
  rcases cells_at hx with h | ⟨rfl, rfl, h⟩
  · have hc7 : c < 7 := (cells_c _ h).1
    exact congr (congrArg Prod.mk (adu_ne (by omega))) (cel_adu h)
  · have hne : p ≠ p0 := fun e => hp (e ▸ h)
    obtain ⟨h0, ht⟩ := law_aty h
    refine congr (congrArg Prod.mk (adu_ne (fun z => hne z.2.2))) ?_
    rcases ht with ht | ht
    · rw [cel_7 h0 ht, cel_7 h0 ht]
    · rw [cel_7L h0 ht, cel_7L h0 ht]
section TOLD
variable {l : Launch} {D : va_G} {cs : Nat → ClassId} {adV : Nat → Nat} {L0 L : Nat} {ad : AD_} {xs : Nat → Int32} {O1 : Mem_}
theorem d_told : ckD cL_told 0 (.iconst 3) 1 = true ∧ ckD cL_told 1 (.newarray .long) 2 = true ∧ ckD cL_told 3 (.astore 8) 2 = true := by decide +kernel
set_option maxRecDepth 20000 in
set_option maxHeartbeats 2000000 in
theorem mTold (h1 : ex 10 129 5 [some (vr 6 0 0), some (vr 8 0 0), some (vi 0), some (vr 7 0 1), some (vr 7 0 2), some (vr 7 0 3), some (vr 7 0 4), some (vr 7 0 5), some (vr 7 0 6)] [] (mS L xs) = some (1, O1)) :
    Met l yL_told (.code yL_told cL_told 16 (some .boolean) :: wsL_law) { frames := 13, cells := 1, slots := 3, locals := 512 } (tPc D cs adV L0 ad (mS L xs)) (tQc D cs L0 ad O1) 1 3 (fun q => L0 ≤ q) := by
  refine Met.ofW (cc := cL_told) (maxL := 16) (ret := some .boolean) (by decide +kernel) rfl ?_
  intro p e s m args below meth c s₁ B hml hv
  obtain ⟨rfl, hP, hin, hL0, hK, hEv, hsc⟩ := hv
  have hts0 := atoms_spec (ws := .code yL_told cL_told 16 (some .boolean) :: wsL_law) B.pre
  have hts : ∀ w ∈ wsL_law, w.before (tArgs ad).toArray s = true := fun w hw => hts0 w (List.mem_cons_of_mem _ hw)
  have hown : s.vm.findClass RLw = some m.cls := findClass_of_methodNamed B.named
  have F : Fr p s m (tArgs ad).toArray c RLw cL_told 16 := ⟨B.exec, B.bytes, hml, hown, hts⟩
  obtain ⟨d0, d1, d3⟩ := d_told
  have hl := lv_entry (tArgs ad) (n := 16) (Nat.le_of_ble_eq_true rfl)
  rw [lg_entry_eq]
  generalize (lg_sl (tArgs ad) ++ List.replicate (16 - (lg_sl (tArgs ad)).length) Slot.unset).toArray = ls at hl ⊢
  refine lv_iconst (v := nI 3) B.exec B.bytes (n := 3) (ckD_s d0) (by decide +kernel) ?_
  refine nw_rowL (lw := 5) (lw' := 6) (p0 := 6) (rest := []) (A := fun q => L0 ≤ q) rfl B.exec B.bytes rfl (by decide) (by decide) rfl (by decide) (hts _ (wq_at (i := 103) (by decide +kernel))) hK hP hin va_S.rf (fun q hq => Nat.le_trans hL0 hq) (Nat.le_of_ble_eq_true rfl) (Nat.le_of_ble_eq_true rfl) (ckD_s d1) (fun q H1 hP1 hin1 hS1 => ?_)
  rw [zer_mS] at hP1
  refine lv_astore (i := 8) B.exec B.bytes (ckD_s d3) hl (by decide) rfl (fun ls1 hl1 => ?_)
  refine W.eq (g2 := F0 m 5 ls1 []) rfl ?_
  have hEv1 : Ev D (adu ad 6 q) cs adV (fun q => L0 ≤ q) s := hEv.adu
  have hsc1 : Scr (adu ad 6 q) (fun q => L0 ≤ q) s (mS L xs) := hsc.adu
  have hl4 : lv_has ls1 16 (asc (adu ad 6 q) 0 [some (vr 6 0 0), some (vr 8 0 0), some (vi 0), some (vr 7 0 1), some (vr 7 0 2), some (vr 7 0 3), some (vr 7 0 4), some (vr 7 0 5), some (vr 7 0 6)]) := by
    refine lv_mono hl1 fun x hx9 => ?_
    have hx9 : x ∈ [((0 : Nat), Value.ref (adu ad 6 q 6 0 0)), (1, .ref (adu ad 6 q 8 0 0)), (2, .int 0), (3, .ref (adu ad 6 q 7 0 1)), (4, .ref (adu ad 6 q 7 0 2)), (5, .ref (adu ad 6 q 7 0 3)), (6, .ref (adu ad 6 q 7 0 4)), (7, .ref (adu ad 6 q 7 0 5)), (8, .ref (adu ad 6 q 7 0 6))] := hx9
    rw [adu_eq, adu_ne (by omega), adu_ne (by omega), adu_ne (by omega), adu_ne (by omega), adu_ne (by omega), adu_ne (by omega), adu_ne (by omega)] at hx9
    show x ∈ [((8 : Nat), Value.ref q), (0, .ref (ad 6 0 0)), (1, .ref (ad 8 0 0)), (2, .int 0), (3, .ref (ad 7 0 1)), (4, .ref (ad 7 0 2)), (5, .ref (ad 7 0 3)), (6, .ref (ad 7 0 4)), (7, .ref (ad 7 0 5))]
    simp only [List.mem_cons, List.not_mem_nil, or_false] at hx9 ⊢
    rcases hx9 with h | h | h | h | h | h | h | h | h <;> simp [h]
  obtain ⟨n, hn⟩ := (lim_some (fun n m r h hr => rn_le h hr)).mp h1
  refine snd_run (lw := 6) (A := fun q => L0 ≤ q) (O0 := mS L xs) (tb := tbs_.getD 129 []) (ct := cts_.getD 129 []) (own := RLw) (cb := cL_told) (ml := 16) (rt := some .boolean) (res := (1, O1)) (adV := adV) (ad := adu ad 6 q) (D := D) (cs := cs) (f := ex 9) (rm := rmD 9) F hEv1 hin1 hsc1 (met_ex (inj_aw hin1) (jdk_ok (inj_aw hin1)) 9) (jdk_ok (inj_aw hin1) 9) (fun y a O r hy => ex8 9 y 0 (lay a) [] O r hy) ⟨rfl, rfl, Nat.le_of_ble_eq_true rfl, Nat.le_of_ble_eq_true rfl⟩ ⟨Nat.le_of_ble_eq_true rfl, Nat.le_of_ble_eq_true rfl, Nat.le_of_ble_eq_true rfl, Nat.le_of_ble_eq_true rfl⟩ ckTo ?_ ?_ ?_ n 5 [some (vr 6 0 0), some (vr 8 0 0), some (vi 0), some (vr 7 0 1), some (vr 7 0 2), some (vr 7 0 3), some (vr 7 0 4), some (vr 7 0 5), some (vr 7 0 6)] [] (mS L xs) H1 [] ls1 hn rfl ?_ (fun v hv => by cases hv) hP1 hS1 hl4
  · intro pc ls H locs a O' hdg hrt hres hP' hS'
    obtain ⟨rfl, rfl⟩ := Prod.mk.inj hres
    refine W.zret (ty := .boolean) B.exec B.bytes B.returns (by decide +kernel) (fun t ht _ => ⟨⟨1, (), rfl, rfl, ?_⟩, hS'.F ht⟩) hS'.2.2 hdg B.notSynchronized
    show va_P D vwCl (wo 5 ad cs O1) t.heap
    rw [ht, ← wo_adu (p0 := 6) (q := q) (by decide)]
    exact wo_less (lw' := 6) (p0 := 6) (q := q) rfl hP'
  · intro pc ls H locs O' _ h
    cases h
  · intro ls H locs O' _ h
    cases h
  · intro v hv
    simp only [List.mem_cons, List.not_mem_nil, or_false, Option.some.injEq] at hv
    rcases hv with rfl | rfl | rfl | rfl | rfl | rfl | rfl | rfl | rfl
    · exact Or.inl (by decide +kernel)
    · exact Or.inr (Or.inr ⟨rfl, rfl, rfl⟩)
    · exact trivial
    · exact Or.inl (by decide +kernel)
    · exact Or.inl (by decide +kernel)
    · exact Or.inl (by decide +kernel)
    · exact Or.inl (by decide +kernel)
    · exact Or.inl (by decide +kernel)
    · exact Or.inl (by decide +kernel)
end TOLD
end
section
/-! THE LAW: the constructor, five rows, told; its checks; three rows more; its loop. -/
def lw_P (b : Addr) (xs : List Int32) (args : Array Value) (s : State) : Prop := args = #[.ref b] ∧ s.IntsAt b xs ∧ xs.length ≤ 260 ∧ (Jvm.Cond.and given_1 narrow_1).before args s = true
def lw_Q (_ : Array Value) (s : State) (o : Outcome) (t : State) : Prop := o = .returned (some (.int 1)) ∧ Framed s o t [] 600000 7302249
def lw_Z (below : List Frame) (a : Array Value) (s : State) : State → Prop := fun t => ∃ o, t.status = .running ∧ Ended t below o ∧ lw_Q a s o t
/-- the law's own end, with 1 on the stack, nothing written that was there before, its room as the claim has it -/
theorem lw_ret {p : Program} {l : Launch} {e : Env} {s : State} {m : MethodId} {below : List Frame} {meth : Method} {c : Code} {b : Nat} (hx : p.tables.exec = Jvm.exec) (hb : c.code = code) (hr : meth.sig.returnType = ret) (hlocks : meth.locks = false) {pc : Nat} {H : Heap} {ls : Array Slot} (hdg : decode code pc = .ok (.ireturn, 1)) : W p l e room_1 s m #[Value.ref b] below meth c H [] 600000 7302249 (lw_Z below #[Value.ref b] s) (F0 m pc ls [.int 1]) := by
  intro T hT X
  obtain ⟨fs, hret, hrun, hended, hW, hframe⟩ := X.leave (v := some (.int 1)) (hlocks := hlocks) (fun h => by rw [hr] at h; cases h)
  have hmeth' : T.vm.method? m = some meth := X.method'
  refine ⟨T.setFrames fs, ?_, .returned (some (.int 1)), hrun, hended, rfl, ⟨_, rfl⟩, hW, hframe⟩
  jvm_step X.here [X.here.top, hx, hb, hdg, hmeth', hr, ret, narrow_b1]
  (try refine ⟨rfl, ?_⟩); (try refine ⟨rfl, ?_⟩)
  first | (intro acts; rw [hret _ acts rfl rfl rfl]) | rw [hret _ _ rfl rfl rfl]
  exact Steps.refl _

theorem nw6 : nwOK room_1 RLw 6 10 13 97 2 yX6_init cX6_init { frames := 3, cells := 145, slots := 2139, locals := 120 } 145 2139 :=
  ⟨by decide, rfl, rfl, rfl, wq_at (i := 0) (by decide +kernel), wq_at (i := 1) (by decide +kernel), wq_at (i := 2) (by decide +kernel), rfl, by decide +kernel, rfl, by decide +kernel, wq_at (i := 4) (by decide +kernel), wq_at (i := 5) (by decide +kernel), wq_at (i := 6) (by decide +kernel), ⟨Nat.le_of_ble_eq_true rfl, Nat.le_of_ble_eq_true rfl⟩⟩
theorem d_law : ckD code 0 (.new 13) 3 = true ∧ ckD code 3 .dup 1 = true ∧ ckD code 4 (.invokespecial 97) 3 = true ∧ ckD code 7 (.astore_n 1) 1 = true ∧ ckP code 8 2 8 = true ∧ ckD code 10 (.newarray .int) 2 = true ∧ ckD code 12 (.astore_n 2) 1 = true ∧ ckP code 13 2 24 = true ∧ ckD code 15 (.newarray .int) 2 = true ∧ ckD code 17 (.astore_n 3) 1 = true ∧ ckP code 18 1 4 = true ∧ ckD code 19 (.newarray .int) 2 = true ∧ ckD code 21 (.astore 4) 2 = true ∧ ckP code 23 2 24 = true ∧ ckD code 25 (.newarray .int) 2 = true ∧ ckD code 27 (.astore 5) 2 = true ∧ ckP code 29 1 4 = true ∧ ckD code 30 (.newarray .int) 2 = true ∧ ckD code 32 (.astore 6) 2 = true := by decide +kernel
theorem d_law2 : ckD code 34 (.aload_n 1) 1 = true ∧ ckD code 35 (.aload_n 0) 1 = true ∧ ckD code 36 (.iconst 0) 1 = true ∧ ckD code 37 (.aload_n 2) 1 = true ∧ ckD code 38 (.aload_n 3) 1 = true ∧ ckD code 39 (.aload 4) 2 = true ∧ ckD code 41 (.aload 5) 2 = true ∧ ckD code 43 (.aload 6) 2 = true ∧ ckD code 45 (.invokestatic 98) 3 = true ∧ ckD code 307 (.astore 7) 2 = true ∧ ckP code 309 2 40 = true ∧ ckD code 311 (.newarray .int) 2 = true ∧ ckD code 313 (.astore 8) 2 = true ∧ ckP code 315 2 60 = true ∧ ckD code 317 (.newarray .int) 2 = true ∧ ckD code 319 (.astore 9) 2 = true := by decide +kernel
/-- what is left: numbers alone -/
def Pure_ : Prop := ∀ (L : Nat) (xs : Nat → Int32), L ≤ 260 → ∃ (O1 O2 O3 : Mem_), ex 10 129 5 [some (vr 6 0 0), some (vr 8 0 0), some (vi 0), some (vr 7 0 1), some (vr 7 0 2), some (vr 7 0 3), some (vr 7 0 4), some (vr 7 0 5), some (vr 7 0 6)] [] (mS L xs) = some (1, O1) ∧ ex 10 218 48 [some (vr 8 0 0), some (vr 6 0 0), some (vr 7 0 1), some (vr 7 0 2), some (vr 7 0 3), some (vr 7 0 4), some (vr 7 0 5)] [vi 1] O1 = some (nI 7, O2) ∧ ex 10 218 321 [some (vr 8 0 0), some (vr 6 0 0), some (vr 7 0 1), some (vr 7 0 2), some (vr 7 0 3), some (vr 7 0 4), some (vr 7 0 5), some (vr 7 0 7), some (vr 7 0 8), some (vr 7 0 9)] [] (zer (zer (zer O2 7) 8) 9) = some (1, O3)
theorem ck218 : chkT RLw code 28 (some .boolean) (tbs_.getD 218 []) = true := ck_218
theorem zer8 {O : Mem_} {p0 : Nat} : zer O p0 8 = O 8 := by
  funext n p
  exact zer_ne (by omega)
section WHOLE
variable {p : Program} {e : Env} {s : State} {m : MethodId} {below : List Frame} {meth : Method} {c : Code} {l : Launch} {b L : Nat} {xs : Nat → Int32} {D : va_G} {cs : Nat → ClassId} {adV : Nat → Nat}
/-- from behind the three rows to the end -/
theorem law_3 {ad : AD_} {O O3 : Mem_} {H : Heap} {locs : List Loc} {ls : Array Slot} {cells slots : Nat} (hx : p.tables.exec = Jvm.exec) (hb : c.code = code) (hr : meth.sig.returnType = ret) (hlocks : meth.locks = false) (F : Fr p s m #[Value.ref b] c RLw code 28) (hEv : Ev D ad cs adV (fun q => s.heap.size ≤ q) s) (hsc : Scr ad (fun q => s.heap.size ≤ q) s O) (hin : Inj_ 9 ad (fun q => s.heap.size ≤ q)) (h3 : ex 10 218 321 [some (vr 8 0 0), some (vr 6 0 0), some (vr 7 0 1), some (vr 7 0 2), some (vr 7 0 3), some (vr 7 0 4), some (vr 7 0 5), some (vr 7 0 7), some (vr 7 0 8), some (vr 7 0 9)] [] O = some (1, O3)) (hP : va_P D vwCl (wo 9 ad cs O) H) (hS : va_S (fun q => s.heap.size ≤ q) s.heap H locs) (hl : lv_has ls 28 (asc ad 0 [some (vr 8 0 0), some (vr 6 0 0), some (vr 7 0 1), some (vr 7 0 2), some (vr 7 0 3), some (vr 7 0 4), some (vr 7 0 5), some (vr 7 0 7), some (vr 7 0 8), some (vr 7 0 9)])) (hcl : cells ≤ 600000) (hsl : slots ≤ 7302249) :
    W p l e room_1 s m #[Value.ref b] below meth c H locs cells slots (lw_Z below #[Value.ref b] s) (F0 m 321 ls []) := by
  obtain ⟨n, hn⟩ := (lim_some (fun n m r h hr => rn_le h hr)).mp h3
  refine snd_run (lw := 9) (A := fun q => s.heap.size ≤ q) (O0 := O) (tb := tbs_.getD 218 []) (ct := cts_.getD 218 []) (own := RLw) (cb := code) (ml := 28) (rt := some .boolean) (res := (1, O3)) (adV := adV) (ad := ad) (D := D) (cs := cs) (f := ex 9) (rm := rmD 9) F hEv hin hsc (met_ex (inj_aw hin) (jdk_ok (inj_aw hin)) 9) (jdk_ok (inj_aw hin) 9) (fun y a O r hy => ex8 9 y 0 (lay a) [] O r hy) ⟨rfl, rfl, Nat.le_of_ble_eq_true rfl, Nat.le_of_ble_eq_true rfl⟩ ⟨Nat.le_of_ble_eq_true rfl, Nat.le_of_ble_eq_true rfl, hcl, hsl⟩ ck218 ?_ ?_ ?_ n 321 [some (vr 8 0 0), some (vr 6 0 0), some (vr 7 0 1), some (vr 7 0 2), some (vr 7 0 3), some (vr 7 0 4), some (vr 7 0 5), some (vr 7 0 7), some (vr 7 0 8), some (vr 7 0 9)] [] O H locs ls hn rfl ?_ (fun v hv => by cases hv) hP hS hl
  · intro pc ls H locs a O' hdg _ hres _ hS'
    obtain rfl : 1 = a := (Prod.mk.inj hres).1
    exact W.widen (k := 600000) (n := 7302249) hcl hsl (va_forget (fun q hq => hS'.2.2 q hq) (lw_ret hx hb hr hlocks hdg))
  · intro pc ls H locs O' _ h
    cases h
  · intro ls H locs O' _ _ hres
    exact absurd (Prod.mk.inj hres).1 (by decide)
  · intro v hv
    simp only [List.mem_cons, List.not_mem_nil, or_false, Option.some.injEq] at hv
    rcases hv with rfl | rfl | rfl | rfl | rfl | rfl | rfl | rfl | rfl | rfl
    · exact Or.inr (Or.inr ⟨rfl, rfl, rfl⟩)
    · exact Or.inl (by decide +kernel)
    · exact Or.inl (by decide +kernel)
    · exact Or.inl (by decide +kernel)
    · exact Or.inl (by decide +kernel)
    · exact Or.inl (by decide +kernel)
    · exact Or.inl (by decide +kernel)
    · exact Or.inl (by decide +kernel)
    · exact Or.inl (by decide +kernel)
    · exact Or.inl (by decide +kernel)
abbrev lL5 (ad : AD_) : List (Nat × Value) := [(0, .ref (ad 8 0 0)), (1, .ref (ad 6 0 0)), (2, .ref (ad 7 0 1)), (3, .ref (ad 7 0 2)), (4, .ref (ad 7 0 3)), (5, .ref (ad 7 0 4)), (6, .ref (ad 7 0 5))]
/-- three rows more, and on -/
theorem law_2 {ad : AD_} {O O3 : Mem_} {H : Heap} {locs : List Loc} {ls : Array Slot} {cells slots : Nat} (hx : p.tables.exec = Jvm.exec) (hb : c.code = code) (hr : meth.sig.returnType = ret) (hlocks : meth.locks = false) (F : Fr p s m #[Value.ref b] c RLw code 28) (hK : va_K D vwCl (tyL cs) s) (hEv : Ev D ad cs adV (fun q => s.heap.size ≤ q) s) (hsc : Scr ad (fun q => s.heap.size ≤ q) s O) (hin : Inj_ 5 ad (fun q => s.heap.size ≤ q)) (h3 : ex 10 218 321 [some (vr 8 0 0), some (vr 6 0 0), some (vr 7 0 1), some (vr 7 0 2), some (vr 7 0 3), some (vr 7 0 4), some (vr 7 0 5), some (vr 7 0 7), some (vr 7 0 8), some (vr 7 0 9)] [] (zer (zer (zer O 7) 8) 9) = some (1, O3)) (hP : va_P D vwCl (wo 5 ad cs O) H) (hS : va_S (fun q => s.heap.size ≤ q) s.heap H locs) (hl : lv_has ls 28 (lL5 ad)) (hcl : cells + 3 ≤ 600000) (hsl : slots + 160 ≤ 7302249) (hdg : decode code 305 = .ok (.newarray .int, 2)) :
    W p l e room_1 s m #[Value.ref b] below meth c H locs cells slots (lw_Z below #[Value.ref b] s) (F0 m 305 ls [.int (nI 60)]) := by
  obtain ⟨-, -, -, -, -, -, -, -, -, d307, d309, d311, d313, d315, d317, d319⟩ := d_law2
  have hI : (Cond.arrayClass .int).before #[Value.ref b] s = true := F.2.2.2.2 _ (wq_at (i := 3) (by decide +kernel))
  refine nw_row (lw := 5) (lw' := 7) (p0 := 7) (rest := []) (A := fun q => s.heap.size ≤ q) rfl hx hb rfl (by decide) (by decide) rfl (by decide) hI hK hP hin hS (fun q hq => hq) (by show cells + 1 ≤ 600000; omega) (by show slots + 60 ≤ 7302249; omega) hdg (fun q7 H7 hP7 hin7 hS7 => ?_)
  refine lv_astore (i := 7) hx hb (ckD_s d307) hl (by decide) rfl (fun ls7 hl7 => ?_)
  refine psh (pc := 309) hx hb d309 ?_
  refine nw_row (lw := 7) (lw' := 8) (p0 := 8) (rest := []) (pc := 311) (A := fun q => s.heap.size ≤ q) rfl hx hb rfl (by decide) (by decide) rfl (by decide) hI hK hP7 hin7 hS7 (fun q hq => hq) (by show cells + 1 + 1 ≤ 600000; omega) (by show slots + 60 + 40 ≤ 7302249; omega) (ckD_s d311) (fun q8 H8 hP8 hin8 hS8 => ?_)
  refine lv_astore (i := 8) (pc := 313) hx hb (ckD_s d313) hl7 (by decide) rfl (fun ls8 hl8 => ?_)
  refine psh (pc := 315) hx hb d315 ?_
  refine nw_row (lw := 8) (lw' := 9) (p0 := 9) (rest := []) (pc := 317) (A := fun q => s.heap.size ≤ q) rfl hx hb rfl (by decide) (by decide) rfl (by decide) hI hK hP8 hin8 hS8 (fun q hq => hq) (by show cells + 1 + 1 + 1 ≤ 600000; omega) (by show slots + 60 + 40 + 60 ≤ 7302249; omega) (ckD_s d317) (fun q9 H9 hP9 hin9 hS9 => ?_)
  refine lv_astore (i := 9) (pc := 319) hx hb (ckD_s d319) hl8 (by decide) rfl (fun ls9 hl9 => ?_)
  refine W.eq (g2 := F0 m 321 ls9 []) rfl ?_
  refine law_3 (ad := adu (adu (adu ad 7 q7) 8 q8) 9 q9) hx hb hr hlocks F hEv.adu.adu.adu ?_ hin9 h3 hP9 hS9 ?_ (by omega) (by omega)
  · obtain ⟨L, xs, hL, hX, hbl, hbA, hlen, hxs⟩ := hsc.adu (p0 := 7) (q := q7) |>.adu (p0 := 8) (q := q8) |>.adu (p0 := 9) (q := q9)
    exact ⟨L, xs, hL, hX, hbl, hbA, by rw [zer8, zer8, zer8]; exact hlen, fun j hj => by rw [zer8, zer8, zer8]; exact hxs j hj⟩
  · refine lv_mono hl9 fun x hx9 => ?_
    generalize hA : adu (adu (adu ad 7 q7) 8 q8) 9 q9 = a9 at hx9
    have hx9 : x ∈ [((0 : Nat), Value.ref (a9 8 0 0)), (1, .ref (a9 6 0 0)), (2, .ref (a9 7 0 1)), (3, .ref (a9 7 0 2)), (4, .ref (a9 7 0 3)), (5, .ref (a9 7 0 4)), (6, .ref (a9 7 0 5)), (7, .ref (a9 7 0 7)), (8, .ref (a9 7 0 8)), (9, .ref (a9 7 0 9))] := hx9
    have e : ∀ c n p, ¬ (c = 7 ∧ n = 0 ∧ 7 ≤ p) → a9 c n p = ad c n p := fun c n p z => by rw [← hA, adu_ne (by omega), adu_ne (by omega), adu_ne (by omega)]
    have e7 : a9 7 0 7 = q7 := by rw [← hA, adu_ne (by omega), adu_ne (by omega), adu_eq]
    have e8 : a9 7 0 8 = q8 := by rw [← hA, adu_ne (by omega), adu_eq]
    have e9 : a9 7 0 9 = q9 := by rw [← hA, adu_eq]
    rw [e7, e8, e9, e _ _ _ (by omega), e _ _ _ (by omega), e _ _ _ (by omega), e _ _ _ (by omega), e _ _ _ (by omega), e _ _ _ (by omega), e _ _ _ (by omega)] at hx9
    show x ∈ [((9 : Nat), Value.ref q9), (8, .ref q8), (7, .ref q7), (0, .ref (ad 8 0 0)), (1, .ref (ad 6 0 0)), (2, .ref (ad 7 0 1)), (3, .ref (ad 7 0 2)), (4, .ref (ad 7 0 3)), (5, .ref (ad 7 0 4)), (6, .ref (ad 7 0 5))]
    simp only [List.mem_cons, List.not_mem_nil, or_false] at hx9 ⊢
    rcases hx9 with h | h | h | h | h | h | h | h | h | h <;> simp [h]
end WHOLE
set_option maxRecDepth 20000 in
set_option maxHeartbeats 2000000 in
theorem whole_of (hpure : Pure_) {p : Program} {e : Env} {s : State} {m : MethodId} {below : List Frame} {meth : Method} {c : Code} (l : Launch) {b L : Nat} {xs : Nat → Int32} (hL : L ≤ 260) (C0 : lw_At p s m meth c b L xs) : W p l e room_1 s m #[Value.ref b] below meth c s.heap [] 0 0 (lw_Z below #[Value.ref b] s) (entryFrame m ([Value.ref b] : List Value).toArray 28) := by
  obtain ⟨D, cs, st, adV, hEs, hEc⟩ := law_env C0
  obtain ⟨O1, O2, O3, h1, h2, h3⟩ := hpure L xs hL
  obtain ⟨hx, hb, hr, hml, hown, hts, hX, hbl, hlocks, hgv⟩ := C0
  have htw : ∀ w ∈ wsL_law, w.before #[Value.ref b] s = true := fun w hw => hts w (wsL_law_in w hw)
  have F : Fr p s m #[Value.ref b] c RLw code 28 := ⟨hx, hb, hml, hown, htw⟩
  obtain ⟨d0, d3, d4, d7, d8, d10, d12, d13, d15, d17, d18, d19, d21, d23, d25, d27, d29, d30, d32⟩ := d_law
  obtain ⟨d34, d35, d36, d37, d38, d39, d41, d43, d45, -⟩ := d_law2
  have hI : (Cond.arrayClass .int).before #[Value.ref b] s = true := htw _ (wq_at (i := 3) (by decide +kernel))
  have hK := hEc.1
  have hl := lv_entry [Value.ref b] (n := 28) (Nat.le_of_ble_eq_true rfl)
  rw [lg_entry_eq]
  generalize (lg_sl [Value.ref b] ++ List.replicate (28 - (lg_sl [Value.ref b]).length) Slot.unset).toArray = ls at hl ⊢
  have hP0 : va_P D vwCl [] s.heap := fun k q hk => by simp at hk
  have hD0 : va_D (fun q => s.heap.size ≤ q) [] := ⟨fun i j p q hi => by simp at hi, fun k q hk => by simp at hk⟩
  refine new_obj (adr := fun u : S6_ => u.1.1) (pst := pst6) (w := w6 cs) (ci := 6) (N := 10) (i1 := 13) (i2 := 97) (maxL := 2) (mc := 145) (ms := 2139) (y := yX6_init) (yc := cX6_init) (rm := { frames := 3, cells := 145, slots := 2139, locals := 120 }) (ws := []) (rest := []) (A := fun q => s.heap.size ≤ q) F hEc (fun q hq => hq) hl.1 (fun o sz => mi6) nw6 hP0 hD0 va_S.rf (Nat.le_of_ble_eq_true rfl) (Nat.le_of_ble_eq_true rfl) (ckD_s d0) (ckD_s d3) (ckD_s d4) (Nat.le_of_ble_eq_true rfl) (fun u H1 locs1 hu hP1 hD1 hS1 => ?_)
  refine W.eq (g2 := F0 m 7 ls [.ref u.1.1]) rfl ?_
  refine lv_astore_n (k := 1) (i := 1) hx hb (ckD_s d7) rfl hl (by decide) rfl (fun ls1 hl1 => ?_)
  rw [List.nil_append] at hP1 hD1
  obtain ⟨hPa, htag⟩ := wo_of (cs := cs) (b := b) (st := st) (f7 := fun _ => 0) hu hP1
  have hina := inj_of hD1 htag
  generalize had : adr u (fun _ => 0) st b = ad at hPa hina
  have e6 : ad 6 0 0 = u.1.1 := by rw [← had]; rfl
  have e8 : ad 8 0 0 = b := by rw [← had]; rfl
  have hEv : Ev D ad cs adV (fun q => s.heap.size ≤ q) s := by
    have h9 : ad 9 = fun i _ => st i := by rw [← had]; rfl
    unfold Ev
    rw [h9]
    exact hEs
  have hsc : Scr ad (fun q => s.heap.size ≤ q) s (mS L xs) := ⟨L, xs, Nat.lt_of_le_of_lt hL (by decide), by rw [e8]; exact hX, by rw [e8]; exact hbl, fun h => by rw [e8] at h; exact absurd h (Nat.not_le.mpr hbl), rfl, fun j _ => rfl⟩
  rw [← wo_mS (L := L) (xs := xs)] at hPa
  refine psh (pc := 8) hx hb d8 ?_
  refine nw_row (lw := 0) (lw' := 1) (p0 := 1) (rest := []) (pc := 10) (A := fun q => s.heap.size ≤ q) rfl hx hb rfl (by decide) (by decide) rfl (by decide) hI hK hPa hina hS1 (fun q hq => hq) (Nat.le_of_ble_eq_true rfl) (Nat.le_of_ble_eq_true rfl) (ckD_s d10) (fun q1 H2 hP2 hin2 hS2 => ?_)
  rw [zer_mS] at hP2
  refine lv_astore_n (k := 2) (i := 2) (pc := 12) hx hb (ckD_s d12) rfl hl1 (by decide) rfl (fun ls2 hl2 => ?_)
  refine psh (pc := 13) hx hb d13 ?_
  refine nw_row (lw := 1) (lw' := 2) (p0 := 2) (rest := []) (pc := 15) (A := fun q => s.heap.size ≤ q) rfl hx hb rfl (by decide) (by decide) rfl (by decide) hI hK hP2 hin2 hS2 (fun q hq => hq) (Nat.le_of_ble_eq_true rfl) (Nat.le_of_ble_eq_true rfl) (ckD_s d15) (fun q2 H3 hP3 hin3 hS3 => ?_)
  rw [zer_mS] at hP3
  refine lv_astore_n (k := 3) (i := 3) (pc := 17) hx hb (ckD_s d17) rfl hl2 (by decide) rfl (fun ls3 hl3 => ?_)
  refine psh (pc := 18) hx hb d18 ?_
  refine nw_row (lw := 2) (lw' := 3) (p0 := 3) (rest := []) (pc := 19) (A := fun q => s.heap.size ≤ q) rfl hx hb rfl (by decide) (by decide) rfl (by decide) hI hK hP3 hin3 hS3 (fun q hq => hq) (Nat.le_of_ble_eq_true rfl) (Nat.le_of_ble_eq_true rfl) (ckD_s d19) (fun q3 H4 hP4 hin4 hS4 => ?_)
  rw [zer_mS] at hP4
  refine lv_astore (i := 4) (pc := 21) hx hb (ckD_s d21) hl3 (by decide) rfl (fun ls4 hl4 => ?_)
  refine psh (pc := 23) hx hb d23 ?_
  refine nw_row (lw := 3) (lw' := 4) (p0 := 4) (rest := []) (pc := 25) (A := fun q => s.heap.size ≤ q) rfl hx hb rfl (by decide) (by decide) rfl (by decide) hI hK hP4 hin4 hS4 (fun q hq => hq) (Nat.le_of_ble_eq_true rfl) (Nat.le_of_ble_eq_true rfl) (ckD_s d25) (fun q4 H5 hP5 hin5 hS5 => ?_)
  rw [zer_mS] at hP5
  refine lv_astore (i := 5) (pc := 27) hx hb (ckD_s d27) hl4 (by decide) rfl (fun ls5 hl5 => ?_)
  refine psh (pc := 29) hx hb d29 ?_
  refine nw_row (lw := 4) (lw' := 5) (p0 := 5) (rest := []) (pc := 30) (A := fun q => s.heap.size ≤ q) rfl hx hb rfl (by decide) (by decide) rfl (by decide) hI hK hP5 hin5 hS5 (fun q hq => hq) (Nat.le_of_ble_eq_true rfl) (Nat.le_of_ble_eq_true rfl) (ckD_s d30) (fun q5 H6 hP6 hin6 hS6 => ?_)
  rw [zer_mS] at hP6
  refine lv_astore (i := 6) (pc := 32) hx hb (ckD_s d32) hl5 (by decide) rfl (fun ls6 hl6 => ?_)
  have hEv6 : Ev D (adu (adu (adu (adu (adu ad 1 q1) 2 q2) 3 q3) 4 q4) 5 q5) cs adV (fun q => s.heap.size ≤ q) s := hEv.adu.adu.adu.adu.adu
  have hsc6 : Scr (adu (adu (adu (adu (adu ad 1 q1) 2 q2) 3 q3) 4 q4) 5 q5) (fun q => s.heap.size ≤ q) s (mS L xs) := hsc.adu.adu.adu.adu.adu
  generalize hA : adu (adu (adu (adu (adu ad 1 q1) 2 q2) 3 q3) 4 q4) 5 q5 = a5 at hP6 hin6 hEv6 hsc6
  have e : ∀ c n p, c ≠ 7 → a5 c n p = ad c n p := fun c n p z => by rw [← hA, adu_ne (by omega), adu_ne (by omega), adu_ne (by omega), adu_ne (by omega), adu_ne (by omega)]
  have f1 : a5 7 0 1 = q1 := by rw [← hA, adu_ne (by omega), adu_ne (by omega), adu_ne (by omega), adu_ne (by omega), adu_eq]
  have f2 : a5 7 0 2 = q2 := by rw [← hA, adu_ne (by omega), adu_ne (by omega), adu_ne (by omega), adu_eq]
  have f3 : a5 7 0 3 = q3 := by rw [← hA, adu_ne (by omega), adu_ne (by omega), adu_eq]
  have f4 : a5 7 0 4 = q4 := by rw [← hA, adu_ne (by omega), adu_eq]
  have f5 : a5 7 0 5 = q5 := by rw [← hA, adu_eq]
  have g8 : a5 8 0 0 = b := (e _ _ _ (by decide)).trans e8
  have g6 : a5 6 0 0 = u.1.1 := (e _ _ _ (by decide)).trans e6
  have hlA : lv_has ls6 28 (lL5 a5) := by
    refine lv_mono hl6 fun x hx9 => ?_
    unfold lL5 at hx9
    rw [f1, f2, f3, f4, f5, g6, g8] at hx9
    show x ∈ [((6 : Nat), Value.ref q5), (5, .ref q4), (4, .ref q3), (3, .ref q2), (2, .ref q1), (1, .ref u.1.1), (0, .ref b)]
    simp only [List.mem_cons, List.not_mem_nil, or_false] at hx9 ⊢
    rcases hx9 with h | h | h | h | h | h | h <;> simp [h]
  refine lv_aload_n (k := 1) (i := 1) (pc := 34) hx hb (ckD_s d34) rfl (lv_at hlA 1 rfl) ?_
  refine lv_aload_n (k := 0) (i := 0) (pc := 35) hx hb (ckD_s d35) rfl (lv_at hlA 0 rfl) ?_
  refine lv_iconst (v := 0) (pc := 36) hx hb (n := 0) (ckD_s d36) rfl ?_
  refine lv_aload_n (k := 2) (i := 2) (pc := 37) hx hb (ckD_s d37) rfl (lv_at hlA 2 rfl) ?_
  refine lv_aload_n (k := 3) (i := 3) (pc := 38) hx hb (ckD_s d38) rfl (lv_at hlA 3 rfl) ?_
  refine lv_aload (i := 4) (pc := 39) hx hb (ckD_s d39) (lv_at hlA 4 rfl) ?_
  refine lv_aload (i := 5) (pc := 41) hx hb (ckD_s d41) (lv_at hlA 5 rfl) ?_
  refine lv_aload (i := 6) (pc := 43) hx hb (ckD_s d43) (lv_at hlA 6 rfl) ?_
  have hpre : PreS s H6 (tPc D cs adV s.heap.size a5 (mS L xs)) (tArgs a5) := ⟨tPc_bl, fun U hU hW => ⟨rfl, by rw [hU]; exact hP6, hin6, by rw [hU]; exact hS6.1, va_K.moved hW.alike hK, Ev.warm hW hU hS6 (fun q h => h) hEv6, Scr.warm hW hU hS6 (fun q h => h) rfl hsc6⟩⟩
  refine va_calli (a := (tArgs a5).toArray) (va_runS (n := 8) (index := 98) (rest := []) F (mTold (l := l) (L0 := s.heap.size) (D := D) (cs := cs) (adV := adV) (ad := a5) h1) (va_cwS 8 htw (ws_goodIn (fun w hw0 => ?_)) rfl rfl rfl (by decide +kernel) ⟨Nat.le_of_ble_eq_true rfl, Nat.le_of_ble_eq_true rfl⟩) hpre rfl rfl hlA.1 rfl (Nat.le_of_ble_eq_true rfl) (ckD_s d45) ⟨Nat.le_of_ble_eq_true rfl, Nat.le_of_ble_eq_true rfl⟩) hS6 (fun x _ hx9 => hx9) (fun x hx9 => hx9) (fun v u9 t H7 locs7 e7 _ hv hB _ _ hS7 => ?_)
  · rcases List.mem_append.mp hw0 with hw0 | hw0
    · simp only [List.mem_cons, List.not_mem_nil, or_false] at hw0
      rcases hw0 with rfl | rfl | rfl
      · exact wq_at (i := 99) (by decide +kernel)
      · exact wq_at (i := 100) (by decide +kernel)
      · exact wq_at (i := 101) (by decide +kernel)
    · rcases List.mem_cons.mp hw0 with rfl | hw0
      · exact wq_at wq_c129
      · exact hw0
  subst e7
  subst hv
  have hB : va_P D vwCl (wo 5 a5 cs O1) t.heap := hB
  refine W.eq (g2 := F0 m 48 ls6 [.int 1]) rfl ?_
  have h8 : O1 8 = mS L xs 8 := ex8 10 129 _ _ _ _ _ h1
  have h82 : O2 8 = O1 8 := ex8 10 218 _ _ _ _ _ h2
  have hscB : ∀ O : Mem_, O 8 = mS L xs 8 → Scr a5 (fun q => s.heap.size ≤ q) s O := fun O hO => by
    obtain ⟨L', xs', a1, a2, a3, a4, a5', a6⟩ := hsc6
    exact ⟨L', xs', a1, a2, a3, a4, by rw [hO]; exact a5', fun j hj => by rw [hO]; exact a6 j hj⟩
  obtain ⟨n, hn⟩ := (lim_some (fun n m r h hr => rn_le h hr)).mp h2
  refine snd_run (lw := 5) (A := fun q => s.heap.size ≤ q) (O0 := O1) (tb := tbs_.getD 218 []) (ct := cts_.getD 218 []) (own := RLw) (cb := code) (ml := 28) (rt := some .boolean) (res := (nI 7, O2)) (adV := adV) (ad := a5) (D := D) (cs := cs) (f := ex 9) (rm := rmD 9) F hEv6 hin6 (hscB O1 h8) (met_ex (inj_aw hin6) (jdk_ok (inj_aw hin6)) 9) (jdk_ok (inj_aw hin6) 9) (fun y a O r hy => ex8 9 y 0 (lay a) [] O r hy) ⟨rfl, rfl, Nat.le_of_ble_eq_true rfl, Nat.le_of_ble_eq_true rfl⟩ ⟨Nat.le_of_ble_eq_true rfl, Nat.le_of_ble_eq_true rfl, Nat.le_of_ble_eq_true rfl, Nat.le_of_ble_eq_true rfl⟩ ck218 ?_ ?_ ?_ n 48 [some (vr 8 0 0), some (vr 6 0 0), some (vr 7 0 1), some (vr 7 0 2), some (vr 7 0 3), some (vr 7 0 4), some (vr 7 0 5)] [vi 1] O1 t.heap locs7 ls6 hn rfl ?_ (fun v hv => by simp only [List.mem_cons, List.not_mem_nil, or_false] at hv; subst hv; exact trivial) hB hS7 hlA
  · intro pc ls H locs a O' _ hrt hres _ _
    have ha : nI 7 = a := (Prod.mk.inj hres).1
    rcases hrt with h | ⟨-, h | h⟩
    · cases h
    · rw [← ha] at h; exact absurd h (by decide)
    · rw [← ha] at h; exact absurd h (by decide)
  · intro pc ls H locs O' _ h
    cases h
  · intro ls H locs O' hdg _ hres hP' hS' hl'
    obtain rfl : O2 = O' := (Prod.mk.inj hres).2
    exact law_2 hx hb hr hlocks F hK hEv6 (hscB O2 (h82.trans h8)) hin6 h3 hP' hS' hl' (Nat.le_of_ble_eq_true rfl) (Nat.le_of_ble_eq_true rfl) hdg
  · intro v hv
    simp only [List.mem_cons, List.not_mem_nil, or_false, Option.some.injEq] at hv
    rcases hv with rfl | rfl | rfl | rfl | rfl | rfl | rfl
    · exact Or.inr (Or.inr ⟨rfl, rfl, rfl⟩)
    · exact Or.inl (by decide +kernel)
    · exact Or.inl (by decide +kernel)
    · exact Or.inl (by decide +kernel)
    · exact Or.inl (by decide +kernel)
    · exact Or.inl (by decide +kernel)
    · exact Or.inl (by decide +kernel)
end
section
/-! THE END: the claim. -/
/-- YOUR PART: from the entry, for every script of at most 260 ints, the law comes to its end with true ('hflags': the launch's flags, for a law that throws: no stack traces) -/
theorem whole_start {p : Program} {e : Env} {s : State} {m : MethodId} {below : List Frame} {meth : Method} {c : Code} (l : Launch) (hflags : l.flags = flags0) {b L : Nat} {xs : Nat → Int32} (hL : L ≤ 260) (C0 : lw_At p s m meth c b L xs) : W p l e room_1 s m #[Value.ref b] below meth c s.heap [] 0 0 (lw_Z below #[Value.ref b] s) (entryFrame m ([Value.ref b] : List Value).toArray 28) := by
  exact whole_of pure_ok l hL C0
set_option maxHeartbeats 4000000 in
theorem lw_walk (l : Launch) (hflags : l.flags = flags0) (b : Addr) (xs : List Int32) : MetFree l x (headSpec (Jvm.Cond.code x code maxLocals ret :: tables_1) room_1) (lw_P b xs) (fun _ _ _ _ _ => True) lw_Q := by
  refine MetFree.of_bodyS (code := code) (maxLocals := maxLocals) (ret := ret) (by decide) ?_ ?_
  · intro args s m h hn
    obtain ⟨meth, c, h1, h2, h3, h4, h5, h6, -, -⟩ := Cond.code_spec hn (atoms_spec (ws := Jvm.Cond.code x code maxLocals ret :: tables_1) h _ List.mem_cons_self)
    exact ⟨meth, c, h1, h2, h3, h4, h5, h6⟩
  · intro p e s m args below meth c s₁ B hml0 hP _
    obtain ⟨rfl, hx, hbd, hgv⟩ := hP
    obtain ⟨scr, harrAt, hlist, hof, hsmall⟩ := hx
    obtain ⟨hcb, hkn, -, -⟩ := State.arrayAt?_spec harrAt
    have hown : s.vm.findClass R_law = some m.cls := findClass_of_methodNamed B.named
    have hts0 : ∀ c ∈ (Jvm.Cond.code x code maxLocals ret :: tables_1), c.before #[Value.ref b] s = true := atoms_spec (ws := Jvm.Cond.code x code maxLocals ret :: tables_1) B.pre
    have hts : ∀ w ∈ lw_tbl, w.before #[Value.ref b] s = true := k2_hts_sels lw_privs (fun w hw => hts0 w (List.mem_cons_of_mem _ hw)) lw_privs_ok
    have hml : c.maxLocals = 28 := B.maxLocals_eq (hts0 _ List.mem_cons_self)
    have X₀ : Stand p l e room_1 s m #[Value.ref b] below meth c s₁ [] 0 0 := Stand.of_body B
    have hh0 : s₁.heap = s.heap := by rw [B.state]; rfl
    have hsz : scr.slots.size = xs.length := by rw [← Array.length_toList, hlist, List.length_map]
    have hval : ∀ j : Nat, j < xs.length → scr.slots[j]? = some (.int (xs.getD j 0)) := fun j hj => by
      rw [← Array.getElem?_toList, hlist]
      simp [hj]
    have hbl : b < s.heap.size := (Array.getElem?_eq_some_iff.mp hcb).1
    have hX : va_X b xs.length (fun j => xs.getD j 0) s s.heap := ⟨scr, hcb, hof, hkn, hsz, hval⟩
    have K : W p l e room_1 s m #[Value.ref b] below meth c s₁.heap [] 0 0 (lw_Z below #[Value.ref b] s) (entryFrame m ([Value.ref b] : List Value).toArray 28) := by
      rw [hh0]
      exact whole_start l hflags hbd ⟨B.exec, B.bytes, B.returns, hml, hown, hts, hX, hbl, B.notSynchronized, hgv⟩
    obtain ⟨t, a1, o, b1, b2, b3⟩ := K s₁ rfl X₀
    exact ⟨t, o, a1, b1, b2, b3⟩
theorem lw_pre_spec {args : Array Value} {s : State} (h : (Jvm.Cond.and given_1 narrow_1).before args s = true) (hr : rest_1_c.before args s = true) : ∃ (b : Addr) (xs : List Int32), lw_P b xs args s := by
  have hs := flat_of_before _ h
  have hq := flat_of_before _ hr
  have hc : (Cond.count 1).before args s = true := hs _ (by decide +kernel)
  have harr : (Cond.arrayOf (.arg 0) .int).before args s = true := hs _ (by decide +kernel)
  have hle : (Cond.le (.length (.arg 0)) (.int 260)).before args s = true := hs _ (by decide +kernel)
  have hlen : (Cond.isInt (.length (.arg 0))).before args s = true := hq _ (by decide +kernel)
  have hall : (Cond.all (.arg 0) (.isInt (.elem (.arg 0) (.index 0)))).before args s = true := hq _ (by decide +kernel)
  obtain ⟨b, xs, hb, hx⟩ := State.ints_of_pre rfl harr hlen hall
  have hsm : xs.length < 2 ^ 31 := hx.choose_spec.2.2.2
  have hev : (Term.length (.arg 0)).eval args s none [] s = some (.int xs.length.toInt32) := hx.length_eval hb
  have hv := Cond.le_ints hev (show (Term.int 260).eval args s none [] s = some (.int 260) from rfl)
  have hd : xs.length.toInt32 ≤ 260 := by
    simpa [Cond.before, Cond.holds, hv] using hle
  have hN : xs.length ≤ 260 := (Int32.ofNat_le_ofNat hsm (by decide)).mp (show Int32.ofNat xs.length ≤ Int32.ofNat 260 from hd)
  exact ⟨b, xs, Cond.one_arg hc (show args[0]? = some (.ref b) from hb), hx, hN, h⟩
theorem lw_comes (l : Launch) (hflags : l.flags = flags0) : Comes l x (Jvm.Cond.code x code maxLocals ret :: tables_1) room_1 (fun tb e args s => Calls_1 tb e args s ∧ rest_1 tb e args s ∧ Pre_1 tb e args s)
    (fun _ _ args s o t => lw_Q args s o t) := by
  intro p e ha hc hk s m args below hf hfit hheap happ hpre
  obtain ⟨b, xs, hP⟩ := lw_pre_spec hpre.2.2 hpre.2.1
  obtain ⟨k, o, h1, h2, h3, hQ⟩ := lw_walk l hflags b xs p e ha hc hk s m args below hf ((Spec.applies_iff_loose hf).mp happ).1 hP trivial
  exact ⟨k, o, h1, h2, h3, hQ⟩
theorem lw_frame {s t : State} {o : Outcome} {args : Array Value} (h : Framed s o t [] 600000 7302249) :
    Framed s o t (fieldLocs frame_1_writes args s ++ arrayLocs frame_1_arrays args s ++ staticLocs frame_1_statics s) 600000 7302249 := h
theorem lw_limb (L : Cond) (hL : ∀ (args : Array Value) (s t : State), L.after args s (.returned (some (.int 1))) t = true) :
    ArmFor flags0 classFile x code maxLocals ret World_1 tables_1 room_1 Calls_1 rest_1 Pre_1
      (fun tb e a s o t => postC L tb e a s o t ∧ Framed s o t (fieldLocs frame_1_writes a s ++ arrayLocs frame_1_arrays a s ++ staticLocs frame_1_statics s) 600000 7302249) := by
  intro l hflags _ _ p e ha hc hk s m args below hf hfit hheap happ hpre
  obtain ⟨k, o, h1, h2, h3, rfl, hF⟩ := lw_comes l hflags p e ha hc hk s m args below hf hfit hheap happ hpre
  exact ⟨k, _, h1, h2, h3, hL args s _, lw_frame hF⟩
theorem i_vc : Claimed_1_1 ∧ Claimed_1_2 := ⟨lw_limb limb_1_1 (fun args s t => by simp [limb_1_1, Cond.after, Cond.holds, Cond.value]), lw_limb limb_1_2 (fun args s t => Cond.after_iff.mpr (by
  first | (rw [show limb_1_2 = Cond.eq .result (.int 1) from rfl, Cond.eq_ints (x := 1) (y := 1) rfl rfl]; simp; done) | (simp [limb_1_2, Cond.value, Term.eval]; done)))⟩
end
