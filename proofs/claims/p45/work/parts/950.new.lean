/-! CONSTRUCTORS: new rows of numbers into final fields. -/
def Ec (D : va_G) (cs : Nat → ClassId) (s : State) : Prop := va_K D vwCl (tyL cs) s ∧ va_AO RX1 s ∧ va_AO RX0 s ∧ va_AOA .int s
theorem Ec.moved {D : va_G} {cs : Nat → ClassId} {s U : State} (hvm : s.vm.Alike U.vm) (h : Ec D cs s) : Ec D cs U := ⟨va_K.moved hvm h.1, va_AO.moved hvm h.2.1, va_AO.moved hvm h.2.2.1, va_AOA.moved hvm h.2.2.2⟩
/-- length of the push, length of the row, its kind, its field, the pool's entry, the place of its word -/
abbrev Bk_ : Type := Nat × Nat × Nat × Nat × Nat × Nat
def ckD (cb : ByteArray) (pc : Nat) (ins : Instr) (len : Nat) : Bool := match decode cb pc with
  | .ok (i, k) => decide (i = ins ∧ k = len)
  | _ => false
theorem ckD_s {cb : ByteArray} {pc len : Nat} {ins : Instr} (h : ckD cb pc ins len = true) : decode cb pc = .ok (ins, len) := by
  unfold ckD at h
  split at h
  · rename_i i k hq
    obtain ⟨rfl, rfl⟩ := of_decide_eq_true h
    exact hq
  · cases h
def ckP (cb : ByteArray) (pc L N : Nat) : Bool := match decode cb pc with
  | .ok (.iconst n, k) => decide (k = 1 ∧ L = 1 ∧ Int32.ofInt n = nI N)
  | .ok (.bipush n, k) => decide (k = 2 ∧ L = 2 ∧ (Int8.ofInt n).toInt32 = nI N)
  | .ok (.sipush n, k) => decide (k = 3 ∧ L = 3 ∧ (Int16.ofInt n).toInt32 = nI N)
  | _ => false
def tz (z : Nat) : FieldType := if z = 0 then .int else .boolean
def atz (z : Nat) : ArrayType := if z = 0 then .int else .boolean
def ckB (own : String) (cb : ByteArray) (ci pc : Nat) (b : Bk_) : Bool := match b with
  | (L, N, z, k, i, w) => ckD cb pc (.aload_n 0) 1 && ckP cb (pc + 1) L N && ckD cb (pc + 1 + L) (.newarray (atz z)) 2 && ckD cb (pc + 1 + L + 2) (.putfield i) 3 &&
      decide (z < 2 ∧ N ≤ 1000 ∧ k < (rcl ci).2.2 ∧ (fdw ci k).2.2.2 = true ∧ (fdw ci k).1 = own ∧ parseFieldDescriptor (fdw ci k).2.2.1 = some (.array (tz z))) && wq w (.fieldLink own i (fdw ci k).1 (fdw ci k).2.1 (fdw ci k).2.2.1)
def ckBs (own : String) (cb : ByteArray) (ci : Nat) : List Bk_ → Nat → Bool
  | [], _ => true
  | b :: bs, pc => ckB own cb ci pc b && ckBs own cb ci bs (pc + 6 + b.1)
def bkq (cs : Nat → ClassId) : List Bk_ → List Nat → va_W
  | b :: bs, q :: qs => (q, .inl (cs b.2.2.1, b.2.1, .inl fun _ => 0)) :: bkq cs bs qs
  | _, _ => []
def bkf : List Bk_ → List Nat → List Value → List Value
  | b :: bs, q :: qs, fs => bkf bs qs (fs.set b.2.2.2.1 (.ref q))
  | _, _, fs => fs
def bkpc : List Bk_ → Nat → Nat
  | [], pc => pc
  | b :: bs, pc => bkpc bs (pc + 6 + b.1)
def bksl : List Bk_ → Nat
  | [] => 0
  | b :: bs => b.2.1 + bksl bs
def dfv (c : Nat) : List Value := (List.range (rcl c).2.2).map fun k => if fkd c k = 0 then .int 0 else .null
def mZ : Mem_ := fun _ _ _ _ => 0
/-- the cells of one object and of its own rows, at the addresses f -/
def sl (cs : Nat → ClassId) (c : Nat) (O : Mem_) (f : Nat → Nat) : va_W := (prts c).map fun p => (f p, cel (fun _ _ p => f p) cs O (c, 0, p))
theorem kArr {cs : Nat → ClassId} {z : Nat} (hz : z < 2) : (tyL cs)[z]? = some (cs z, tz z) := by
  match z, hz with
  | 0, _ => rfl
  | 1, _ => rfl
section CTOR
variable {p : Program} {l : Launch} {e : Env} {R : Room} {s : State} {m : MethodId} {args : Array Value} {below : List Frame} {meth : Method} {c : Code} {cells slots : Nat} {Q : State → Prop}
variable {D : va_G} {cs : Nat → ClassId} {A : Nat → Prop} {own : String} {cb : ByteArray} {ml pc : Nat} {H H0 : Heap} {locs : List Loc} {ls : Array Slot} {rest : List Value} {ws : va_W}
theorem psh {L N : Nat} (hx : p.tables.exec = Jvm.exec) (hb : c.code = cb) (h : ckP cb pc L N = true) (k : W p l e R s m args below meth c H locs cells slots Q (F0 m (pc + L) ls (.int (nI N) :: rest))) : W p l e R s m args below meth c H locs cells slots Q (F0 m pc ls rest) := by
  unfold ckP at h
  split at h
  · rename_i n q hq
    obtain ⟨rfl, rfl, hv⟩ := of_decide_eq_true h
    exact lv_iconst hx hb hq hv k
  · rename_i n q hq
    obtain ⟨rfl, rfl, hv⟩ := of_decide_eq_true h
    exact lv_bipush hx hb hq hv k
  · rename_i n q hq
    obtain ⟨rfl, rfl, hv⟩ := of_decide_eq_true h
    exact lv_sipush hx hb hq hv k
  · cases h
theorem nw_arr {z N : Nat} (hx : p.tables.exec = Jvm.exec) (hb : c.code = cb) (hz : z < 2) (harr : (Cond.arrayClass (tz z)).before args s = true) (hK : va_K D vwCl (tyL cs) s) (hP : va_P D vwCl ws H) (hD : va_D A ws) (hS : va_S A H0 H locs) (hA : ∀ q, H0.size ≤ q → A q) (hN : N ≤ 1000) (hcells : cells + 1 ≤ R.cells) (hslots : slots + N ≤ R.slots) (hdg : decode cb pc = .ok (.newarray (atz z), 2))
    (kk : ∀ (q : Nat) (H1 : Heap), va_P D vwCl (ws ++ [(q, .inl (cs z, N, .inl fun _ => 0))]) H1 → va_D A (ws ++ [(q, .inl (cs z, N, .inl fun _ => 0))]) → va_S A H0 H1 locs → W p l e R s m args below meth c H1 locs (cells + 1) (slots + N) Q (F0 m (pc + 2) ls (.ref q :: rest))) :
    W p l e R s m args below meth c H locs cells slots Q (F0 m pc ls (.int (nI N) :: rest)) := by
  match z, hz with
  | 0, _ =>
    refine va_newa (atype := .int) (ty := .int) (N' := N) (a0 := (N, .inl fun _ => 0)) hx hb harr rfl hK hP hD hS hA (fun cA => rfl) (nI_pos (by omega)) (nI_clamp (by omega)) (by show N * 4 ≤ 536870912; omega) hcells hslots hdg (fun q cA H1 hK1 hP1 hD1 hS1 => ?_)
    have h1 : s.vm.findClass ("[" ++ FieldType.int.toString) = some cA := (hK1.2 6 (cA, .int) rfl).2
    have h2 : s.vm.findClass ("[" ++ FieldType.int.toString) = some (cs 0) := (hK.2 0 (cs 0, .int) rfl).2
    obtain rfl : cA = cs 0 := Option.some.inj (h1.symm.trans h2)
    exact kk q H1 hP1 hD1 hS1
  | 1, _ =>
    refine va_newa (atype := .boolean) (ty := .boolean) (N' := N) (a0 := (N, .inl fun _ => 0)) hx hb harr rfl hK hP hD hS hA (fun cA => rfl) (nI_pos (by omega)) (nI_clamp (by omega)) (by show N * 1 ≤ 536870912; omega) hcells hslots hdg (fun q cA H1 hK1 hP1 hD1 hS1 => ?_)
    have h1 : s.vm.findClass ("[" ++ FieldType.boolean.toString) = some cA := (hK1.2 6 (cA, .boolean) rfl).2
    have h2 : s.vm.findClass ("[" ++ FieldType.boolean.toString) = some (cs 1) := (hK.2 1 (cs 1, .boolean) rfl).2
    obtain rfl : cA = cs 1 := Option.some.inj (h1.symm.trans h2)
    exact kk q H1 hP1 hD1 hS1
theorem wds_n : wq 3 (.arrayClass .int) = true ∧ wq 58 (.arrayClass .boolean) = true ∧ wq 8 (.instanceMethod objectInit) = true ∧ wq 9 (.code objectInit ⟨#[0xb1]⟩ 1 none) = true := by decide +kernel
theorem bks_run {ci o : Nat} (F : Fr p s m args c own cb ml) (hK : va_K D vwCl (tyL cs) s) (hci : ci < 7) (hin2 : meth.name = "<init>") (hA : ∀ q, s.heap.size ≤ q → A q) (hl0 : ls[0]? = some (.val (.ref o))) :
    ∀ (bs : List Bk_) (pc : Nat) (fs : List Value) (arrs : va_W) (cells slots : Nat) (H : Heap) (locs : List Loc), ckBs own cb ci bs pc = true → fs.length = (rcl ci).2.2 → va_P D vwCl ((o, .inr (ci, fs)) :: arrs) H → va_D A ((o, .inr (ci, fs)) :: arrs) → va_S A s.heap H locs → cells + bs.length ≤ R.cells → slots + bksl bs ≤ R.slots →
    (∀ (qs : List Nat) (H1 : Heap) (locs1 : List Loc), qs.length = bs.length → va_P D vwCl ((o, .inr (ci, bkf bs qs fs)) :: (arrs ++ bkq cs bs qs)) H1 → va_D A ((o, .inr (ci, bkf bs qs fs)) :: (arrs ++ bkq cs bs qs)) → va_S A s.heap H1 locs1 → W p l e R s m args below meth c H1 locs1 (cells + bs.length) (slots + bksl bs) Q (F0 m (bkpc bs pc) ls [])) →
    W p l e R s m args below meth c H locs cells slots Q (F0 m pc ls []) := by
  intro bs
  induction bs with
  | nil =>
    intro pc fs arrs cells slots H locs _ _ hP hD hS _ _ kk
    have h0 : arrs ++ bkq cs [] [] = arrs := List.append_nil _
    exact kk [] H locs rfl (by rw [h0]; exact hP) (by rw [h0]; exact hD) hS
  | cons b bs ih =>
    intro pc fs arrs cells slots H locs hck hfs hP hD hS hcells hslots kk
    obtain ⟨L, N, z, k, i, w⟩ := b
    obtain ⟨hx, hb, hml, hown, hts⟩ := id F
    have hck : (ckB own cb ci pc (L, N, z, k, i, w) && ckBs own cb ci bs (pc + 6 + L)) = true := hck
    rw [Bool.and_eq_true] at hck
    obtain ⟨h1, h2⟩ := hck
    simp only [ckB, Bool.and_eq_true, decide_eq_true_eq] at h1
    obtain ⟨⟨⟨⟨⟨g1, g2⟩, g3⟩, g4⟩, hz, hN, hk, hfin, hdecl, hty⟩, hw⟩ := h1
    have hc1 : cells + (bs.length + 1) ≤ R.cells := hcells
    have hs1 : slots + (N + bksl bs) ≤ R.slots := hslots
    obtain ⟨w44, w62, -⟩ := wds_n
    refine lv_aload_n hx hb (ckD_s g1) rfl hl0 ?_
    refine psh hx hb g2 ?_
    refine nw_arr hx hb hz ?_ hK hP hD hS hA hN (by omega) (by omega) (ckD_s g3) (fun q H1 hP1 hD1 hS1 => ?_)
    · match z, hz with
      | 0, _ => exact hts _ (wq_at w44)
      | 1, _ => exact hts _ (wq_at w62)
    obtain ⟨ty0, hty0⟩ := rcl_ty hci
    refine va_putF (rest := []) (T := (rcl ci).2.1) hx hb hts (rcl_in hci) ty0 hty0 (rcl_nm hci) hown hK hP1 hD1 hS1 0 rfl (rcl_mem hci) k hk (hts _ (wq_at hw)) (fun _ h9 => h9) hfin hin2 hdecl hty rfl rfl (by rw [hfs]; exact hk) (ckD_s g4) (fun H2 locs2 hP2 hD2 hS2 => ?_)
    refine W.eq (g2 := F0 m (pc + 6 + L) ls []) (by rw [show pc + 1 + L + 2 + 3 = pc + 6 + L by omega]) ?_
    refine ih (pc + 6 + L) (fs.set k (.ref q)) (arrs ++ [((q, .inl (cs z, N, .inl fun _ => 0)) : Nat × va_E)]) (cells + 1) (slots + N) H2 locs2 h2 (by rw [List.length_set]; exact hfs) hP2 hD2 hS2 (by omega) (by omega) (fun qs H3 locs3 hq hP3 hD3 hS3 => ?_)
    have e1 : cells + 1 + bs.length = cells + (((L, N, z, k, i, w) : Bk_) :: bs).length := by rw [List.length_cons]; omega
    have e2 : slots + N + bksl bs = slots + bksl ((L, N, z, k, i, w) :: bs) := by show _ = slots + (N + bksl bs); omega
    rw [e1, e2]
    rw [List.append_assoc] at hP3 hD3
    exact kk (q :: qs) H3 locs3 (by simp [hq]) hP3 hD3 hS3
def iPc (D : va_G) (cs : Nat → ClassId) (o sz ci : Nat) : Array Value → State → Prop := va_Pc [.ref o] (fun U => U.heap.size = sz ∧ va_P D vwCl [(o, .inr (ci, dfv ci))] U.heap ∧ o < sz ∧ Ec D cs U)
def iQg {S : Type} (adr : S → Nat) (pst : S → Prop) (w : S → va_W) (D : va_G) (o sz ci : Nat) : Array Value → State → Outcome → State → Prop := va_Qv (S := S) (fun u => adr u = o ∧ pst u) (fun u t => va_P D vwCl (w u) t.heap ∧ va_D (va_A [(o, .inr (ci, dfv ci))] sz) (w u)) (va_A [(o, .inr (ci, dfv ci))] sz)
def iQc (D : va_G) (cs : Nat → ClassId) (o sz ci : Nat) (O : Mem_) : Array Value → State → Outcome → State → Prop := iQg (S := Nat → Nat) (fun f => f 0) (fun _ => True) (fun f => sl cs ci O f) D o sz ci
theorem iPc_bl {o sz ci : Nat} : FrameBlind (iPc D cs o sz ci) := fun _ _ _ _ h => ⟨h.1, h.2.1, h.2.2.1, h.2.2.2.1, Ec.moved (Vm.Alike.refl _) h.2.2.2.2⟩
theorem met_ini {y : MethodName} {ci i w o sz : Nat} {bs : List Bk_} (hpl : plainName y.cls = true) (hcl : y.cls = own) (hnm : y.name = "<init>") (hci : ci < 7) (hdl : (dfv ci).length = (rcl ci).2.2) (h0 : ckD cb 0 (.aload_n 0) 1 = true) (h1 : ckD cb 1 (.invokespecial i) 3 = true) (hw : wq w (.methodLink own i objectInit) = true) (hck : ckBs own cb ci bs 4 = true) (hend : ckD cb (bkpc bs 4) .return_ 1 = true)
    (post : ∀ qs : List Nat, qs.length = bs.length → ∃ f : Nat → Nat, f 0 = o ∧ (o, .inr (ci, bkf bs qs (dfv ci))) :: bkq cs bs qs = sl cs ci mZ f) :
    Met l y (.code y cb 1 none :: wsL_law) { frames := 1, cells := bs.length, slots := bksl bs, locals := 40 } (iPc D cs o sz ci) (iQc D cs o sz ci mZ) bs.length (bksl bs) (va_A [(o, .inr (ci, dfv ci))] sz) := by
  subst hcl
  refine Met.ofW (cc := cb) (maxL := 1) (ret := none) hpl rfl ?_
  intro p e s m args below meth c s₁ B hml hv
  obtain ⟨rfl, hsz, hP, ho, hE⟩ := hv
  have hts0 := atoms_spec (ws := .code y cb 1 none :: wsL_law) B.pre
  have hts : ∀ w ∈ wsL_law, w.before #[Value.ref o] s = true := fun w hw => hts0 w (List.mem_cons_of_mem _ hw)
  have hown : s.vm.findClass y.cls = some m.cls := findClass_of_methodNamed B.named
  have hin : meth.name = "<init>" := (name_of_methodNamed B.named B.method).1.trans hnm
  have F : Fr p s m #[Value.ref o] c y.cls cb 1 := ⟨B.exec, B.bytes, hml, hown, hts⟩
  obtain ⟨-, -, w11, w12⟩ := wds_n
  subst hsz
  have hD : va_D (va_A [(o, .inr (ci, dfv ci))] s.heap.size) [(o, .inr (ci, dfv ci))] := by
    refine ⟨fun i j p q hi hj _ => ?_, fun k q hk => va_A.in hk⟩
    have hi := (List.getElem?_eq_some_iff.mp hi).1
    have hj := (List.getElem?_eq_some_iff.mp hj).1
    simp at hi hj
    omega
  have hl := lv_entry [Value.ref o] (n := 1) (Nat.le_of_ble_eq_true rfl)
  rw [lg_entry_eq]
  generalize (lg_sl [Value.ref o] ++ List.replicate (1 - (lg_sl [Value.ref o]).length) Slot.unset).toArray = ls at hl ⊢
  have hl0 : ls[0]? = some (.val (.ref o)) := lv_at hl 0 rfl
  refine lv_aload_n B.exec B.bytes (ckD_s h0) rfl hl0 ?_
  refine W.objInit B.exec B.bytes hown (hts _ (wq_at hw)) (hts _ (wq_at w11)) (hts _ (wq_at w12)) rfl (by rw [hml]; exact hl.1) rfl (ckD_s h1) (Nat.le_refl _) (Nat.le_of_ble_eq_true rfl) ?_
  refine W.eq (g2 := F0 m 4 ls []) rfl ?_
  refine bks_run (A := va_A [(o, .inr (ci, dfv ci))] s.heap.size) (arrs := []) F hE.1 hci hin (fun q hq => Or.inr hq) hl0 bs 4 (dfv ci) 0 0 s.heap [] hck hdl hP hD va_S.rf (by show 0 + bs.length ≤ bs.length; omega) (by show 0 + bksl bs ≤ bksl bs; omega) (fun qs H1 locs1 hq hP1 hD1 hS1 => ?_)
  obtain ⟨f, hf0, hf⟩ := post qs hq
  rw [List.nil_append, hf] at hP1 hD1
  have e1 : 0 + bs.length = bs.length := Nat.zero_add _
  have e2 : 0 + bksl bs = bksl bs := Nat.zero_add _
  rw [e1, e2]
  exact W.vret B.exec B.bytes B.returns (fun t ht _ => ⟨⟨f, rfl, ⟨hf0, trivial⟩, by rw [ht]; exact hP1, hD1⟩, hS1.F ht⟩) hS1.2.2 (ckD_s hend) B.notSynchronized
end CTOR
