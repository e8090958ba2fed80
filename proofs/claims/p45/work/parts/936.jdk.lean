/-! THE JDK METHODS that are reached: length and charAt of a String constant. -/
theorem dJ0_length_8abf5_0 : decode cJ0_length_8abf5 0 = .ok (.aload_n 0, 1) := by decide +kernel
theorem dJ0_length_8abf5_1 : decode cJ0_length_8abf5 1 = .ok (.getfield 9, 3) := by decide +kernel
theorem dJ0_length_8abf5_4 : decode cJ0_length_8abf5 4 = .ok (.arraylength, 1) := by decide +kernel
theorem dJ0_length_8abf5_5 : decode cJ0_length_8abf5 5 = .ok (.aload_n 0, 1) := by decide +kernel
theorem dJ0_length_8abf5_6 : decode cJ0_length_8abf5 6 = .ok (.invokevirtual 335, 3) := by decide +kernel
theorem dJ0_length_8abf5_9 : decode cJ0_length_8abf5 9 = .ok (.ishr, 1) := by decide +kernel
theorem dJ0_length_8abf5_10 : decode cJ0_length_8abf5 10 = .ok (.ireturn, 1) := by decide +kernel
theorem dJ0_charAt_5068e_0 : decode cJ0_charAt_5068e 0 = .ok (.aload_n 0, 1) := by decide +kernel
theorem dJ0_charAt_5068e_1 : decode cJ0_charAt_5068e 1 = .ok (.invokevirtual 492, 3) := by decide +kernel
theorem dJ0_charAt_5068e_4 : decode cJ0_charAt_5068e 4 = .ok (.ifCond .eq 12, 3) := by decide +kernel
theorem dJ0_charAt_5068e_7 : decode cJ0_charAt_5068e 7 = .ok (.aload_n 0, 1) := by decide +kernel
theorem dJ0_charAt_5068e_8 : decode cJ0_charAt_5068e 8 = .ok (.getfield 9, 3) := by decide +kernel
theorem dJ0_charAt_5068e_11 : decode cJ0_charAt_5068e 11 = .ok (.iload_n 1, 1) := by decide +kernel
theorem dJ0_charAt_5068e_12 : decode cJ0_charAt_5068e 12 = .ok (.invokestatic 495, 3) := by decide +kernel
theorem dJ0_charAt_5068e_15 : decode cJ0_charAt_5068e 15 = .ok (.ireturn, 1) := by decide +kernel
theorem dJ0_charAt_5068e_16 : decode cJ0_charAt_5068e 16 = .ok (.aload_n 0, 1) := by decide +kernel
theorem dJ0_charAt_5068e_17 : decode cJ0_charAt_5068e 17 = .ok (.getfield 9, 3) := by decide +kernel
theorem dJ0_charAt_5068e_20 : decode cJ0_charAt_5068e 20 = .ok (.iload_n 1, 1) := by decide +kernel
theorem dJ0_charAt_5068e_21 : decode cJ0_charAt_5068e 21 = .ok (.invokestatic 498, 3) := by decide +kernel
theorem dJ0_charAt_5068e_24 : decode cJ0_charAt_5068e 24 = .ok (.ireturn, 1) := by decide +kernel
theorem dJ0_coder_7d493_0 : decode cJ0_coder_7d493 0 = .ok (.getstatic 38, 3) := by decide +kernel
theorem dJ0_coder_7d493_3 : decode cJ0_coder_7d493 3 = .ok (.ifCond .eq 10, 3) := by decide +kernel
theorem dJ0_coder_7d493_6 : decode cJ0_coder_7d493 6 = .ok (.aload_n 0, 1) := by decide +kernel
theorem dJ0_coder_7d493_7 : decode cJ0_coder_7d493 7 = .ok (.getfield 15, 3) := by decide +kernel
theorem dJ0_coder_7d493_10 : decode cJ0_coder_7d493 10 = .ok (.goto 4, 3) := by decide +kernel
theorem dJ0_coder_7d493_13 : decode cJ0_coder_7d493 13 = .ok (.iconst 1, 1) := by decide +kernel
theorem dJ0_coder_7d493_14 : decode cJ0_coder_7d493 14 = .ok (.ireturn, 1) := by decide +kernel
theorem dJ0_isLatin1_aae02_0 : decode cJ0_isLatin1_aae02 0 = .ok (.getstatic 38, 3) := by decide +kernel
theorem dJ0_isLatin1_aae02_3 : decode cJ0_isLatin1_aae02 3 = .ok (.ifCond .eq 14, 3) := by decide +kernel
theorem dJ0_isLatin1_aae02_6 : decode cJ0_isLatin1_aae02 6 = .ok (.aload_n 0, 1) := by decide +kernel
theorem dJ0_isLatin1_aae02_7 : decode cJ0_isLatin1_aae02 7 = .ok (.getfield 15, 3) := by decide +kernel
theorem dJ0_isLatin1_aae02_10 : decode cJ0_isLatin1_aae02 10 = .ok (.ifCond .ne 7, 3) := by decide +kernel
theorem dJ0_isLatin1_aae02_13 : decode cJ0_isLatin1_aae02 13 = .ok (.iconst 1, 1) := by decide +kernel
theorem dJ0_isLatin1_aae02_14 : decode cJ0_isLatin1_aae02 14 = .ok (.goto 4, 3) := by decide +kernel
theorem dJ0_isLatin1_aae02_17 : decode cJ0_isLatin1_aae02 17 = .ok (.iconst 0, 1) := by decide +kernel
theorem dJ0_isLatin1_aae02_18 : decode cJ0_isLatin1_aae02 18 = .ok (.ireturn, 1) := by decide +kernel
theorem dJ0_checkIndex_df160_0 : decode cJ0_checkIndex_df160 0 = .ok (.iload_n 0, 1) := by decide +kernel
theorem dJ0_checkIndex_df160_1 : decode cJ0_checkIndex_df160 1 = .ok (.iload_n 1, 1) := by decide +kernel
theorem dJ0_checkIndex_df160_2 : decode cJ0_checkIndex_df160 2 = .ok (.getstatic 1053, 3) := by decide +kernel
theorem dJ0_checkIndex_df160_5 : decode cJ0_checkIndex_df160 5 = .ok (.invokestatic 1059, 3) := by decide +kernel
theorem dJ0_checkIndex_df160_8 : decode cJ0_checkIndex_df160 8 = .ok (.pop, 1) := by decide +kernel
theorem dJ0_checkIndex_df160_9 : decode cJ0_checkIndex_df160 9 = .ok (.return_, 1) := by decide +kernel
theorem dJ1_charAt_3b067_0 : decode cJ1_charAt_3b067 0 = .ok (.iload_n 1, 1) := by decide +kernel
theorem dJ1_charAt_3b067_1 : decode cJ1_charAt_3b067 1 = .ok (.aload_n 0, 1) := by decide +kernel
theorem dJ1_charAt_3b067_2 : decode cJ1_charAt_3b067 2 = .ok (.arraylength, 1) := by decide +kernel
theorem dJ1_charAt_3b067_3 : decode cJ1_charAt_3b067 3 = .ok (.invokestatic 9, 3) := by decide +kernel
theorem dJ1_charAt_3b067_6 : decode cJ1_charAt_3b067 6 = .ok (.aload_n 0, 1) := by decide +kernel
theorem dJ1_charAt_3b067_7 : decode cJ1_charAt_3b067 7 = .ok (.iload_n 1, 1) := by decide +kernel
theorem dJ1_charAt_3b067_8 : decode cJ1_charAt_3b067 8 = .ok (.baload, 1) := by decide +kernel
theorem dJ1_charAt_3b067_9 : decode cJ1_charAt_3b067 9 = .ok (.sipush 255, 3) := by decide +kernel
theorem dJ1_charAt_3b067_12 : decode cJ1_charAt_3b067 12 = .ok (.iand, 1) := by decide +kernel
theorem dJ1_charAt_3b067_13 : decode cJ1_charAt_3b067 13 = .ok (.i2c, 1) := by decide +kernel
theorem dJ1_charAt_3b067_14 : decode cJ1_charAt_3b067 14 = .ok (.ireturn, 1) := by decide +kernel
theorem dJ3_checkIndex_8e157_0 : decode cJ3_checkIndex_8e157 0 = .ok (.iload_n 0, 1) := by decide +kernel
theorem dJ3_checkIndex_8e157_1 : decode cJ3_checkIndex_8e157 1 = .ok (.ifCond .lt 8, 3) := by decide +kernel
theorem dJ3_checkIndex_8e157_4 : decode cJ3_checkIndex_8e157 4 = .ok (.iload_n 0, 1) := by decide +kernel
theorem dJ3_checkIndex_8e157_5 : decode cJ3_checkIndex_8e157 5 = .ok (.iload_n 1, 1) := by decide +kernel
theorem dJ3_checkIndex_8e157_6 : decode cJ3_checkIndex_8e157 6 = .ok (.if_icmp .lt 10, 3) := by decide +kernel
theorem dJ3_checkIndex_8e157_9 : decode cJ3_checkIndex_8e157 9 = .ok (.aload_n 2, 1) := by decide +kernel
theorem dJ3_checkIndex_8e157_10 : decode cJ3_checkIndex_8e157 10 = .ok (.iload_n 0, 1) := by decide +kernel
theorem dJ3_checkIndex_8e157_11 : decode cJ3_checkIndex_8e157 11 = .ok (.iload_n 1, 1) := by decide +kernel
theorem dJ3_checkIndex_8e157_12 : decode cJ3_checkIndex_8e157 12 = .ok (.invokestatic 95, 3) := by decide +kernel
theorem dJ3_checkIndex_8e157_15 : decode cJ3_checkIndex_8e157 15 = .ok (.athrow, 1) := by decide +kernel
theorem dJ3_checkIndex_8e157_16 : decode cJ3_checkIndex_8e157 16 = .ok (.iload_n 0, 1) := by decide +kernel
theorem dJ3_checkIndex_8e157_17 : decode cJ3_checkIndex_8e157 17 = .ok (.ireturn, 1) := by decide +kernel

theorem wds_j : wq 214 (.fieldLink RJ0 9 "java/lang/String" "value" "[B") = true ∧ wq 215 (.methodLink RJ0 335 yJ0_coder_7d493) = true ∧ wq 216 (.instanceMethod yJ0_coder_7d493) = true ∧ wq 217 (.selects RJ0 yJ0_coder_7d493 yJ0_coder_7d493) = true ∧ wq 218 (.code yJ0_coder_7d493 cJ0_coder_7d493 1 (some .byte)) = true ∧ wq 219 (.fieldLink RJ0 38 "java/lang/String" "COMPACT_STRINGS" "Z") = true ∧ wq 220 (.fieldLink RJ0 15 "java/lang/String" "coder" "B") = true ∧
    wq 225 (.methodLink RJ0 492 yJ0_isLatin1_aae02) = true ∧ wq 226 (.instanceMethod yJ0_isLatin1_aae02) = true ∧ wq 227 (.selects RJ0 yJ0_isLatin1_aae02 yJ0_isLatin1_aae02) = true ∧ wq 228 (.code yJ0_isLatin1_aae02 cJ0_isLatin1_aae02 1 (some .boolean)) = true ∧ wq 229 (.methodLink RJ0 495 yJ1_charAt_3b067) = true ∧ wq 230 (.static yJ1_charAt_3b067) = true ∧ wq 231 (.initialized RJ1) = true ∧ wq 232 (.code yJ1_charAt_3b067 cJ1_charAt_3b067 2 (some .char)) = true ∧
    wq 233 (.methodLink RJ1 9 yJ0_checkIndex_df160) = true ∧ wq 234 (.static yJ0_checkIndex_df160) = true ∧ wq 235 (.code yJ0_checkIndex_df160 cJ0_checkIndex_df160 2 none) = true ∧ wq 236 (.fieldLink RJ0 1053 "jdk/internal/util/Preconditions" "SIOOBE_FORMATTER" "Ljava/util/function/BiFunction;") = true ∧ wq 237 (.methodLink RJ0 1059 yJ3_checkIndex_8e157) = true ∧ wq 238 (.static yJ3_checkIndex_8e157) = true ∧ wq 239 (.initialized RJ3) = true ∧ wq 240 (.code yJ3_checkIndex_8e157 cJ3_checkIndex_8e157 3 (some .int)) = true ∧ wq 212 (.initialized RJ0) = true := by decide +kernel
def jP (D : va_G) (lw : Nat) (ad : AD_) (cs : Nat → ClassId) (adV : Nat → Nat) (av : List Value) (O : Mem_) : Array Value → State → Prop := va_Pc av (fun U => va_P D vwCl (wo lw ad cs O) U.heap ∧ Ev D ad cs adV (Aw lw ad) U)
theorem st_len : ∀ i, i < 12 → (sln.getD i 0 = (sT.getD i []).length ∧ (sT.getD i []).length < 2 ^ 31) := by decide +kernel
theorem st_chr : ∀ i, i < 12 → ∀ j, j < 7 → ((((sT.getD i []).getD j 0) &&& 255).toUInt32 % 65536).toInt32 = (sT.getD i []).getD j 0 ∧ narrow .char (.int ((sT.getD i []).getD j 0)) = .int ((sT.getD i []).getD j 0) := by decide +kernel
theorem st_le7 : ∀ i, i < 12 → (sT.getD i []).length ≤ 7 := by decide +kernel
section JDK
variable {l : Launch} {rm : Room} {D : va_G} {lw : Nat} {ad : AD_} {cs : Nat → ClassId} {adV : Nat → Nat} {O : Mem_}
theorem jP_bl (av : List Value) : FrameBlind (jP D lw ad cs adV av O) := fun _ _ _ _ h => ⟨h.1, h.2.1, Ev.same rfl rfl h.2.2⟩
theorem jP_at {A : Nat → Prop} {s : State} {H : Heap} {locs : List Loc} (av : List Value) (E : Ev D ad cs adV A s) (hA : ∀ q, Aw lw ad q → A q) (hP : va_P D vwCl (wo lw ad cs O) H) (hS : va_S A s.heap H locs) :
    ∀ U : State, U.heap = H → s.WarmedH U.vm → jP D lw ad cs adV av O av.toArray U := by
  intro U hU hW
  exact ⟨rfl, by rw [hU]; exact hP, Ev.warm hW hU hS hA E⟩
theorem jk_met {y : MethodName} {cc : ByteArray} {maxL : Nat} {ret : Option FieldType} {av : List Value} {r : Rs_} (hpl : plainName y.cls = true) (hlen : (lg_sl av).length ≤ maxL)
    (body : ∀ (p : Program) (e : Env) (s : State) (m : MethodId) (args : Array Value) (below : List Frame) (meth : Method) (c : Code) (ls : Array Slot), p.tables.exec = Jvm.exec → c.code = cc → c.maxLocals = maxL → s.vm.findClass y.cls = some m.cls → (∀ w ∈ wsL_law, w.before args s = true) → meth.sig.returnType = ret → meth.locks = false → va_P D vwCl (wo lw ad cs O) s.heap → Ev D ad cs adV (Aw lw ad) s → lv_has ls maxL (lv_args 0 av) → W p l e rm s m args below meth c s.heap [] 0 0 (MQ below (mQc D lw ad cs ret r) args s 0 0 (Aw lw ad)) (F0 m 0 ls [])) :
    Met l y (.code y cc maxL ret :: wsL_law) rm (jP D lw ad cs adV av O) (mQc D lw ad cs ret r) 0 0 (Aw lw ad) := by
  refine Met.ofW (cc := cc) (maxL := maxL) (ret := ret) hpl rfl ?_
  intro p e s m args below meth c s₁ B hml hv
  obtain ⟨rfl, hP, E⟩ := hv
  have hts := atoms_spec (ws := .code y cc maxL ret :: wsL_law) B.pre
  have hl := lv_entry av (n := maxL) hlen
  rw [lg_entry_eq]
  generalize (lg_sl av ++ List.replicate (maxL - (lg_sl av).length) Slot.unset).toArray = ls at hl ⊢
  exact body p e s m av.toArray below meth c ls B.exec B.bytes hml (findClass_of_methodNamed B.named) (fun w hw => hts w (List.mem_cons_of_mem _ hw)) B.returns B.notSynchronized hP E hl
theorem jk_coder {i : Nat} (hi : i < 12) : Met l yJ0_coder_7d493 (.code yJ0_coder_7d493 cJ0_coder_7d493 1 (some .byte) :: wsL_law) rm (jP D lw ad cs adV [.ref (ad 9 i 0)] O) (mQc D lw ad cs (some .byte) (0, O)) 0 0 (Aw lw ad) := by
  refine jk_met (by decide +kernel) (Nat.le_of_ble_eq_true rfl) ?_
  intro p e s m args below meth c ls hx hb hml hown hts hr hlocks hP E hl
  have hS0 : va_S (Aw lw ad) s.heap s.heap [] := va_S.rf
  obtain ⟨w294, w295, w296, w297, w298, w299, w300, -⟩ := wds_j
  refine va_gets hx hb E.2.2.1 hS0 hown (hts _ (wq_at w299)) (fun _ h => h) dJ0_coder_7d493_0 ?_
  refine lv_if_eq (tgt := 13) hx hb dJ0_coder_7d493_3 rfl (fun q => absurd q (by decide)) (fun _ => ?_)
  refine lv_aload_n hx hb dJ0_coder_7d493_6 rfl (lv_at hl 0 rfl) ?_
  refine vk_getf hx hb (E.2.1.1 i hi).2.1 hS0 hown (hts _ (wq_at w300)) (fun _ h => h) dJ0_coder_7d493_7 ?_
  refine lv_goto (tgt := 14) hx hb dJ0_coder_7d493_10 rfl ?_
  exact W.zret (ty := .byte) hx hb hr rfl (fun t ht _ => ⟨⟨0, (), rfl, rfl, by show va_P D vwCl (wo lw ad cs O) t.heap; rw [ht]; exact hP⟩, hS0.F ht⟩) hS0.2.2 dJ0_coder_7d493_14 hlocks
theorem jk_lat {i : Nat} (hi : i < 12) : Met l yJ0_isLatin1_aae02 (.code yJ0_isLatin1_aae02 cJ0_isLatin1_aae02 1 (some .boolean) :: wsL_law) rm (jP D lw ad cs adV [.ref (ad 9 i 0)] O) (mQc D lw ad cs (some .boolean) (1, O)) 0 0 (Aw lw ad) := by
  refine jk_met (by decide +kernel) (Nat.le_of_ble_eq_true rfl) ?_
  intro p e s m args below meth c ls hx hb hml hown hts hr hlocks hP E hl
  have hS0 : va_S (Aw lw ad) s.heap s.heap [] := va_S.rf
  obtain ⟨w294, w295, w296, w297, w298, w299, w300, -⟩ := wds_j
  refine va_gets hx hb E.2.2.1 hS0 hown (hts _ (wq_at w299)) (fun _ h => h) dJ0_isLatin1_aae02_0 ?_
  refine lv_if_eq (tgt := 17) hx hb dJ0_isLatin1_aae02_3 rfl (fun q => absurd q (by decide)) (fun _ => ?_)
  refine lv_aload_n hx hb dJ0_isLatin1_aae02_6 rfl (lv_at hl 0 rfl) ?_
  refine vk_getf hx hb (E.2.1.1 i hi).2.1 hS0 hown (hts _ (wq_at w300)) (fun _ h => h) dJ0_isLatin1_aae02_7 ?_
  refine lv_if_ne (tgt := 17) hx hb dJ0_isLatin1_aae02_10 rfl (fun q => absurd rfl q) (fun _ => ?_)
  refine lv_iconst (v := 1) hx hb dJ0_isLatin1_aae02_13 rfl ?_
  refine lv_goto (tgt := 18) hx hb dJ0_isLatin1_aae02_14 rfl ?_
  exact W.zret (ty := .boolean) hx hb hr rfl (fun t ht _ => ⟨⟨1, (), rfl, rfl, by show va_P D vwCl (wo lw ad cs O) t.heap; rw [ht]; exact hP⟩, hS0.F ht⟩) hS0.2.2 dJ0_isLatin1_aae02_18 hlocks
theorem jk_pre {k n : Int32} {v : Value} (hv : v.category = 1) (h0 : ¬ k < 0) (h1 : k < n) : Met l yJ3_checkIndex_8e157 (.code yJ3_checkIndex_8e157 cJ3_checkIndex_8e157 3 (some .int) :: wsL_law) rm (jP D lw ad cs adV [.int k, .int n, v] O) (mQc D lw ad cs (some .int) (k, O)) 0 0 (Aw lw ad) := by
  refine jk_met (by decide +kernel) (by cases v <;> first | exact Nat.le_of_ble_eq_true rfl | exact absurd hv (by intro q; cases q)) ?_
  intro p e s m args below meth c ls hx hb hml hown hts hr hlocks hP E hl
  have hS0 : va_S (Aw lw ad) s.heap s.heap [] := va_S.rf
  refine lv_iload_n hx hb dJ3_checkIndex_8e157_0 rfl (lv_at hl 0 rfl) ?_
  refine lv_if_lt (tgt := 9) hx hb dJ3_checkIndex_8e157_1 rfl (fun q => absurd q h0) (fun _ => ?_)
  refine lv_iload_n hx hb dJ3_checkIndex_8e157_4 rfl (lv_at hl 0 rfl) ?_
  refine lv_iload_n hx hb dJ3_checkIndex_8e157_5 rfl (lv_at hl 1 rfl) ?_
  refine lv_icmp_lt (tgt := 16) hx hb dJ3_checkIndex_8e157_6 rfl (fun _ => ?_) (fun q => absurd h1 q)
  refine lv_iload_n hx hb dJ3_checkIndex_8e157_16 rfl (lv_at hl 0 rfl) ?_
  exact W.iret hx hb hr (fun t ht _ => ⟨⟨k, (), rfl, rfl, by show va_P D vwCl (wo lw ad cs O) t.heap; rw [ht]; exact hP⟩, hS0.F ht⟩) hS0.2.2 dJ3_checkIndex_8e157_17 hlocks
theorem jk_len (hAw : Inj_ lw ad (Aw lw ad)) (hR : 2 ≤ rm.frames ∧ 60 ≤ rm.locals ∧ rm.cells = 0 ∧ rm.slots = 0) {i : Nat} (hi : i < 12) : Met l yJ0_length_8abf5 (.code yJ0_length_8abf5 cJ0_length_8abf5 1 (some .int) :: wsL_law) rm (jP D lw ad cs adV [.ref (ad 9 i 0)] O) (mQc D lw ad cs (some .int) (nI (sT.getD i []).length, O)) 0 0 (Aw lw ad) := by
  refine jk_met (by decide +kernel) (Nat.le_of_ble_eq_true rfl) ?_
  intro p e s m args below meth c ls hx hb hml hown hts hr hlocks hP E hl
  have hS0 : va_S (Aw lw ad) s.heap s.heap [] := va_S.rf
  obtain ⟨w294, w295, w296, w297, w298, w299, w300, wR⟩ := wds_j
  have w292 := wR.2.2.2.2.2.2.2.2.2.2.2.2.2.2.2.2
  refine lv_aload_n hx hb dJ0_length_8abf5_0 rfl (lv_at hl 0 rfl) ?_
  refine vk_getf hx hb (E.2.1.1 i hi).2.2.1 hS0 hown (hts _ (wq_at w294)) (fun _ h => h) dJ0_length_8abf5_1 ?_
  refine va_tlen (v := nI (sT.getD i []).length) hx hb (E.2.1.1 i hi).2.2.2 va_S.rf (by rw [(st_len i hi).1]; rfl) dJ0_length_8abf5_4 ?_
  refine lv_aload_n hx hb dJ0_length_8abf5_5 rfl (lv_at hl 0 rfl) ?_
  have S : CallFix p m c cJ0_length_8abf5 1 s args wsL_law RJ0 := ⟨hx, hb, hml, hown, hts⟩
  have hpre : PreV s s.heap RJ0 (ad 9 i 0) (jP D lw ad cs adV [.ref (ad 9 i 0)] O) [] := ⟨jP_bl _, vk_recv (i := i) (adK := fun i => ad 9 i 0) E.2.1 hi hS0, jP_at [.ref (ad 9 i 0)] E (fun _ h => h) hP hS0⟩
  refine va_calli (va_runV (rm := { frames := 0, cells := 0, slots := 0, locals := 0 }) (ws := .code yJ0_coder_7d493 cJ0_coder_7d493 1 (some .byte) :: wsL_law) (n := 0) (C := RJ0) (index := 335) (rest := [.int (nI (sT.getD i []).length)]) S (jk_coder hi) (cwV 0 hts (ws_goodIn (fun w hw0 => ?_)) rfl rfl rfl (by decide +kernel) ⟨by show 0 + 1 ≤ rm.frames; omega, by show 8 + (1 + 11) + 0 ≤ rm.locals; omega⟩) hpre rfl rfl hl.1 rfl (Nat.le_of_ble_eq_true rfl) dJ0_length_8abf5_6 ⟨Nat.zero_le _, Nat.zero_le _⟩) va_S.rf (fun q _ h => h) (fun q h => h) (fun v u t1 H1 locs1 e1 _ hv hB _ _ hS1 => ?_)
  · rcases List.mem_append.mp hw0 with hw0 | hw0
    · simp only [List.mem_cons, List.not_mem_nil, or_false] at hw0
      rcases hw0 with rfl | rfl | rfl | rfl
      · exact wq_at w295
      · exact wq_at w296
      · exact wq_at w297
      · exact wq_at w292
    · rcases List.mem_cons.mp hw0 with rfl | hw0
      · exact wq_at w298
      · exact hw0
  · subst e1
    subst hv
    refine lv_ishr hx hb dJ0_length_8abf5_9 ?_
    have h0 : nI (sT.getD i []).length >>> ((0 : Int32) &&& 31) = nI (sT.getD i []).length := by
      have h9 : ∀ i, i < 12 → nI (sT.getD i []).length >>> ((0 : Int32) &&& 31) = nI (sT.getD i []).length := by decide +kernel
      exact h9 i hi
    refine W.eq (g2 := F0 m 10 ls [.int (nI (sT.getD i []).length)]) (congrArg (fun x => F0 m 10 ls [Value.int x]) h0) ?_
    exact W.iret hx hb hr (fun t ht _ => ⟨⟨_, (), rfl, rfl, by show va_P D vwCl (wo lw ad cs O) t.heap; rw [ht]; exact hB⟩, hS1.F ht⟩) hS1.2.2 dJ0_length_8abf5_10 hlocks
theorem jk_chk (hR : 1 ≤ rm.frames ∧ 30 ≤ rm.locals ∧ rm.cells = 0 ∧ rm.slots = 0) {k n : Int32} (h0 : ¬ k < 0) (h1 : k < n) : Met l yJ0_checkIndex_df160 (.code yJ0_checkIndex_df160 cJ0_checkIndex_df160 2 none :: wsL_law) rm (jP D lw ad cs adV [.int k, .int n] O) (mQc D lw ad cs none (0, O)) 0 0 (Aw lw ad) := by
  refine jk_met (by decide +kernel) (Nat.le_of_ble_eq_true rfl) ?_
  intro p e s m args below meth c ls hx hb hml hown hts hr hlocks hP E hl
  have hS0 : va_S (Aw lw ad) s.heap s.heap [] := va_S.rf
  obtain ⟨-, -, -, -, -, -, -, -, -, -, -, -, -, -, -, -, -, -, w316, w317, w318, w319, w320, w292⟩ := wds_j
  refine lv_iload_n hx hb dJ0_checkIndex_df160_0 rfl (lv_at hl 0 rfl) ?_
  refine lv_iload_n hx hb dJ0_checkIndex_df160_1 rfl (lv_at hl 1 rfl) ?_
  have S : CallFix p m c cJ0_checkIndex_df160 2 s args wsL_law RJ0 := ⟨hx, hb, hml, hown, hts⟩
  have main : ∀ v : Value, v.category = 1 → va_Z RJ3 "SIOOBE_FORMATTER" "Ljava/util/function/BiFunction;" v (Aw lw ad) s s.heap → W p l e rm s m args below meth c s.heap [] 0 0 (MQ below (mQc D lw ad cs none (0, O)) args s 0 0 (Aw lw ad)) (F0 m 2 ls [.int n, .int k]) := by
    intro v hc hZ
    refine va_gets hx hb hZ hS0 hown (hts _ (wq_at w316)) (fun _ h => h) dJ0_checkIndex_df160_2 ?_
    have hpre : PreS s s.heap (jP D lw ad cs adV [.int k, .int n, v] O) [.int k, .int n, v] := ⟨jP_bl _, jP_at _ E (fun _ h => h) hP hS0⟩
    refine va_calli (va_runS (rm := { frames := 0, cells := 0, slots := 0, locals := 0 }) (ws := .code yJ3_checkIndex_8e157 cJ3_checkIndex_8e157 3 (some .int) :: wsL_law) (n := 3) (index := 1059) (rest := []) S (jk_pre hc h0 h1) (va_cwS 3 hts (ws_goodIn (fun w hw0 => ?_)) rfl rfl rfl (by decide +kernel) ⟨by show 0 + 1 ≤ rm.frames; omega, by show 8 + (3 + 11) + 0 ≤ rm.locals; omega⟩) hpre rfl rfl hl.1 rfl (Nat.le_of_ble_eq_true rfl) dJ0_checkIndex_df160_5 ⟨Nat.zero_le _, Nat.zero_le _⟩) va_S.rf (fun q _ h => h) (fun q h => h) (fun w u t1 H1 locs1 e1 _ hw hB _ _ hS1 => ?_)
    · rcases List.mem_append.mp hw0 with hw0 | hw0
      · simp only [List.mem_cons, List.not_mem_nil, or_false] at hw0
        rcases hw0 with rfl | rfl | rfl
        · exact wq_at w317
        · exact wq_at w318
        · exact wq_at w319
      · rcases List.mem_cons.mp hw0 with rfl | hw0
        · exact wq_at w320
        · exact hw0
    · subst e1
      subst hw
      refine lv_pop hx hb dJ0_checkIndex_df160_8 rfl ?_
      exact W.vret hx hb hr (fun t ht _ => ⟨⟨(), rfl, trivial, by show va_P D vwCl (wo lw ad cs O) t.heap; rw [ht]; exact hB⟩, hS1.F ht⟩) hS1.2.2 dJ0_checkIndex_df160_9 hlocks
  rcases E.2.2.2.1 with hZ | ⟨t, hZ⟩
  · exact main _ rfl hZ
  · exact main _ rfl hZ
theorem ib_nI {k : Int32} {n : Nat} (hn : n < 2 ^ 31) (h : ib k n = true) : ¬ k < 0 ∧ k < nI n := by
  have h1 := ib_lt h
  simp only [ib, Bool.and_eq_true, decide_eq_true_eq] at h
  obtain ⟨j, hj, rfl⟩ := nI_of h.1
  rw [nI_clamp hj] at h1
  exact ⟨h.1, nI_lt h1 hn⟩
theorem jk_latAt (hR : 2 ≤ rm.frames ∧ 60 ≤ rm.locals ∧ rm.cells = 0 ∧ rm.slots = 0) {i : Nat} {k : Int32} (hi : i < 12) (hk : ib k (sT.getD i []).length = true) : Met l yJ1_charAt_3b067 (.code yJ1_charAt_3b067 cJ1_charAt_3b067 2 (some .char) :: wsL_law) rm (jP D lw ad cs adV [.ref (adV i), .int k] O) (mQc D lw ad cs (some .char) ((sT.getD i []).getD k.toNatClampNeg 0, O)) 0 0 (Aw lw ad) := by
  refine jk_met (by decide +kernel) (Nat.le_of_ble_eq_true rfl) ?_
  intro p e s m args below meth c ls hx hb hml hown hts hr hlocks hP E hl
  have hS0 : va_S (Aw lw ad) s.heap s.heap [] := va_S.rf
  obtain ⟨-, -, -, -, -, -, -, -, -, -, -, -, -, -, -, w313, w314, w315, w316, w317, w318, w319, w320, w292⟩ := wds_j
  refine lv_iload_n hx hb dJ1_charAt_3b067_0 rfl (lv_at hl 1 rfl) ?_
  refine lv_aload_n hx hb dJ1_charAt_3b067_1 rfl (lv_at hl 0 rfl) ?_
  refine va_tlen (v := nI (sT.getD i []).length) hx hb (E.2.1.1 i hi).2.2.2 va_S.rf (by rw [(st_len i hi).1]; rfl) dJ1_charAt_3b067_2 ?_
  obtain ⟨h0, h1⟩ := ib_nI (st_len i hi).2 hk
  have S : CallFix p m c cJ1_charAt_3b067 2 s args wsL_law RJ1 := ⟨hx, hb, hml, hown, hts⟩
  have hpre : PreS s s.heap (jP D lw ad cs adV [.int k, .int (nI (sT.getD i []).length)] O) [.int k, .int (nI (sT.getD i []).length)] := ⟨jP_bl _, jP_at _ E (fun _ h => h) hP hS0⟩
  refine va_callv (va_runS (rm := { frames := 1, cells := 0, slots := 0, locals := 30 }) (ws := .code yJ0_checkIndex_df160 cJ0_checkIndex_df160 2 none :: wsL_law) (n := 2) (index := 9) (rest := []) S (jk_chk ⟨by decide, by decide, rfl, rfl⟩ h0 h1) (va_cwS 2 hts (ws_goodIn (fun w hw0 => ?_)) rfl rfl rfl (by decide +kernel) ⟨by show 1 + 1 ≤ rm.frames; omega, by show 8 + (2 + 11) + 30 ≤ rm.locals; omega⟩) hpre rfl rfl hl.1 rfl (Nat.le_of_ble_eq_true rfl) dJ1_charAt_3b067_3 ⟨Nat.zero_le _, Nat.zero_le _⟩) va_S.rf (fun q _ h => h) (fun q h => h) (fun u t1 H1 locs1 e1 _ _ hB _ _ hS1 => ?_)
  · rcases List.mem_append.mp hw0 with hw0 | hw0
    · simp only [List.mem_cons, List.not_mem_nil, or_false] at hw0
      rcases hw0 with rfl | rfl | rfl
      · exact wq_at w313
      · exact wq_at w314
      · exact wq_at w292
    · rcases List.mem_cons.mp hw0 with rfl | hw0
      · exact wq_at w315
      · exact hw0
  · subst e1
    refine lv_aload_n hx hb dJ1_charAt_3b067_6 rfl (lv_at hl 0 rfl) ?_
    refine lv_iload_n hx hb dJ1_charAt_3b067_7 rfl (lv_at hl 1 rfl) ?_
    have hkl := ib_lt hk
    have hch := st_chr i hi k.toNatClampNeg (Nat.lt_of_lt_of_le hkl (st_le7 i hi))
    refine va_tb hx hb (E.2.1.1 i hi).2.2.2 hS1 (by have := ib_in hk; rw [← (st_len i hi).1] at this; exact this) rfl dJ1_charAt_3b067_8 ?_
    refine lv_sipush (v := 255) hx hb dJ1_charAt_3b067_9 rfl ?_
    refine lv_iand hx hb dJ1_charAt_3b067_12 ?_
    refine lv_i2c hx hb dJ1_charAt_3b067_13 hch.1 ?_
    exact W.zret (ty := .char) hx hb hr hch.2 (fun t ht _ => ⟨⟨_, (), rfl, rfl, by show va_P D vwCl (wo lw ad cs O) t.heap; rw [ht]; exact hB⟩, hS1.F ht⟩) hS1.2.2 dJ1_charAt_3b067_14 hlocks
theorem jk_at (hR : 3 ≤ rm.frames ∧ 100 ≤ rm.locals ∧ rm.cells = 0 ∧ rm.slots = 0) {i : Nat} {k : Int32} (hi : i < 12) (hk : ib k (sT.getD i []).length = true) : Met l yJ0_charAt_5068e (.code yJ0_charAt_5068e cJ0_charAt_5068e 2 (some .char) :: wsL_law) rm (jP D lw ad cs adV [.ref (ad 9 i 0), .int k] O) (mQc D lw ad cs (some .char) ((sT.getD i []).getD k.toNatClampNeg 0, O)) 0 0 (Aw lw ad) := by
  refine jk_met (by decide +kernel) (Nat.le_of_ble_eq_true rfl) ?_
  intro p e s m args below meth c ls hx hb hml hown hts hr hlocks hP E hl
  have hS0 : va_S (Aw lw ad) s.heap s.heap [] := va_S.rf
  obtain ⟨w294, -, -, -, -, -, -, w305, w306, w307, w308, w309, w310, w311, w312, -, -, -, -, -, -, -, -, w292⟩ := wds_j
  refine lv_aload_n hx hb dJ0_charAt_5068e_0 rfl (lv_at hl 0 rfl) ?_
  have S : CallFix p m c cJ0_charAt_5068e 2 s args wsL_law RJ0 := ⟨hx, hb, hml, hown, hts⟩
  have hpre : PreV s s.heap RJ0 (ad 9 i 0) (jP D lw ad cs adV [.ref (ad 9 i 0)] O) [] := ⟨jP_bl _, vk_recv (i := i) (adK := fun i => ad 9 i 0) E.2.1 hi hS0, jP_at [.ref (ad 9 i 0)] E (fun _ h => h) hP hS0⟩
  refine va_calli (va_runV (rm := { frames := 0, cells := 0, slots := 0, locals := 0 }) (ws := .code yJ0_isLatin1_aae02 cJ0_isLatin1_aae02 1 (some .boolean) :: wsL_law) (n := 0) (C := RJ0) (index := 492) (rest := []) S (jk_lat hi) (cwV 0 hts (ws_goodIn (fun w hw0 => ?_)) rfl rfl rfl (by decide +kernel) ⟨by show 0 + 1 ≤ rm.frames; omega, by show 8 + (1 + 11) + 0 ≤ rm.locals; omega⟩) hpre rfl rfl hl.1 rfl (Nat.le_of_ble_eq_true rfl) dJ0_charAt_5068e_1 ⟨Nat.zero_le _, Nat.zero_le _⟩) va_S.rf (fun q _ h => h) (fun q h => h) (fun v u t1 H1 locs1 e1 hal hv hB _ _ hS1 => ?_)
  · rcases List.mem_append.mp hw0 with hw0 | hw0
    · simp only [List.mem_cons, List.not_mem_nil, or_false] at hw0
      rcases hw0 with rfl | rfl | rfl | rfl
      · exact wq_at w305
      · exact wq_at w306
      · exact wq_at w307
      · exact wq_at w292
    · rcases List.mem_cons.mp hw0 with rfl | hw0
      · exact wq_at w308
      · exact hw0
  · subst e1
    subst hv
    refine lv_if_eq (tgt := 16) hx hb dJ0_charAt_5068e_4 rfl (fun q => absurd (show (1 : Int32) = 0 from q) (by decide)) (fun _ => ?_)
    refine lv_aload_n hx hb dJ0_charAt_5068e_7 rfl (lv_at hl 0 rfl) ?_
    refine vk_getf hx hb (E.2.1.1 i hi).2.2.1 hS1 hown (hts _ (wq_at w294)) (fun _ h => h) dJ0_charAt_5068e_8 ?_
    refine lv_iload_n hx hb dJ0_charAt_5068e_11 rfl (lv_at hl 1 rfl) ?_
    have hpre2 : PreS s t1.heap (jP D lw ad cs adV [.ref (adV i), .int k] O) [.ref (adV i), .int k] := ⟨jP_bl _, jP_at _ E (fun _ h => h) hB hS1⟩
    refine va_calli (va_runS (rm := { frames := 2, cells := 0, slots := 0, locals := 60 }) (ws := .code yJ1_charAt_3b067 cJ1_charAt_3b067 2 (some .char) :: wsL_law) (n := 2) (index := 495) (rest := []) S (jk_latAt ⟨by decide, by decide, rfl, rfl⟩ hi hk) (va_cwS 2 hts (ws_goodIn (fun w hw0 => ?_)) rfl rfl rfl (by decide +kernel) ⟨by show 2 + 1 ≤ rm.frames; omega, by show 8 + (2 + 11) + 60 ≤ rm.locals; omega⟩) hpre2 rfl rfl hl.1 rfl (Nat.le_of_ble_eq_true rfl) dJ0_charAt_5068e_12 ⟨Nat.zero_le _, Nat.zero_le _⟩) hS1 (fun q _ h => h) (fun q h => h) (fun v u t2 H2 locs2 e2 _ hv hB2 _ _ hS2 => ?_)
    · rcases List.mem_append.mp hw0 with hw0 | hw0
      · simp only [List.mem_cons, List.not_mem_nil, or_false] at hw0
        rcases hw0 with rfl | rfl | rfl
        · exact wq_at w309
        · exact wq_at w310
        · exact wq_at w311
      · rcases List.mem_cons.mp hw0 with rfl | hw0
        · exact wq_at w312
        · exact hw0
    · subst e2
      subst hv
      have hch := st_chr i hi k.toNatClampNeg (Nat.lt_of_lt_of_le (ib_lt hk) (st_le7 i hi))
      exact W.zret (ty := .char) hx hb hr hch.2 (fun t ht _ => ⟨⟨_, (), rfl, rfl, by show va_P D vwCl (wo lw ad cs O) t.heap; rw [ht]; exact hB2⟩, hS2.F ht⟩) hS2.2.2 dJ0_charAt_5068e_15 hlocks
theorem jdk_ok (hAw : Inj_ lw ad (Aw lw ad)) (d : Nat) : JdkOK l (rmD d) D lw ad cs adV := by
  refine ⟨fun i O hi => jk_len hAw ⟨?_, ?_, rfl, rfl⟩ hi, fun i k O hi hk => jk_at ⟨?_, ?_, rfl, rfl⟩ hi hk⟩
  · show 2 ≤ d + 3
    omega
  · show 60 ≤ 40 * d + 100
    omega
  · show 3 ≤ d + 3
    omega
  · show 100 ≤ 40 * d + 100
    omega
end JDK

