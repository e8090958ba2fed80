def chkR (x i : Nat) (rt : Option FieldType) : Bool := ((tbs_.getD x []).getD i []).all fun q => chkE (mcl x).1.cls (mcl x).2.1 (mcl x).2.2.1 rt q
theorem chkR_all {x : Nat} {rt : Option FieldType} {n : Nat} (hn : (tbs_.getD x []).length ≤ n) (h : ∀ i, i < n → chkR x i rt = true) : chkM x rt = true := by
  unfold chkM
  rw [List.all_eq_true]
  intro l hl
  obtain ⟨i, hi⟩ := List.getElem?_of_mem hl
  have h1 := h i (Nat.lt_of_lt_of_le (List.getElem?_eq_some_iff.mp hi).1 hn)
  unfold chkR at h1
  rw [List.getD_eq_getElem?_getD, hi] at h1
  exact h1
set_option maxRecDepth 20000 in
theorem ck_0 : chkM 0 none = true := by decide +kernel
set_option maxRecDepth 20000 in
theorem ck_1 : chkM 1 none = true := by decide +kernel
set_option maxRecDepth 20000 in
theorem ck_2 : chkM 2 (some .boolean) = true := by decide +kernel
set_option maxRecDepth 20000 in
theorem ck_3 : chkM 3 none = true := by decide +kernel
set_option maxRecDepth 20000 in
theorem ck_4 : chkM 4 (some .boolean) = true := by decide +kernel
set_option maxRecDepth 20000 in
theorem ck_5 : chkM 5 none = true := by decide +kernel
set_option maxRecDepth 20000 in
theorem ck_6 : chkM 6 (some .int) = true := by decide +kernel
set_option maxRecDepth 20000 in
theorem ck_7 : chkM 7 (some .int) = true := by decide +kernel
set_option maxRecDepth 20000 in
theorem ck_8 : chkM 8 (some .boolean) = true := by decide +kernel
set_option maxRecDepth 20000 in
theorem ck_9 : chkM 9 (some .boolean) = true := by decide +kernel
set_option maxRecDepth 20000 in
theorem ck_10 : chkM 10 (some .int) = true := by decide +kernel
set_option maxRecDepth 20000 in
theorem ck_11 : chkM 11 (some .int) = true := by decide +kernel
set_option maxRecDepth 20000 in
theorem ck_12 : chkM 12 none = true := by decide +kernel
set_option maxRecDepth 20000 in
theorem ck_13 : chkM 13 none = true := by decide +kernel
set_option maxRecDepth 20000 in
theorem ck_14 : chkM 14 none = true := by decide +kernel
set_option maxRecDepth 20000 in
theorem ck_15 : chkM 15 none = true := by decide +kernel
set_option maxRecDepth 20000 in
theorem ck_16 : chkM 16 none = true := by decide +kernel
set_option maxRecDepth 20000 in
theorem ck_17 : chkM 17 none = true := by decide +kernel
set_option maxRecDepth 20000 in
theorem ck_18 : chkM 18 none = true := by decide +kernel
set_option maxRecDepth 20000 in
theorem ck_19 : chkM 19 none = true := by decide +kernel
set_option maxRecDepth 20000 in
theorem ck_20 : chkM 20 none = true := by decide +kernel
set_option maxRecDepth 20000 in
theorem ck_21 : chkM 21 (some .boolean) = true := by decide +kernel
set_option maxRecDepth 20000 in
theorem ck_22 : chkM 22 none = true := by decide +kernel
set_option maxRecDepth 20000 in
theorem ck_23 : chkM 23 (some .int) = true := by decide +kernel
set_option maxRecDepth 20000 in
theorem ck_24 : chkM 24 (some .int) = true := by decide +kernel
set_option maxRecDepth 20000 in
theorem ck_25 : chkM 25 none = true := by decide +kernel
set_option maxRecDepth 20000 in
theorem ck_26 : chkM 26 (some .boolean) = true := by decide +kernel
set_option maxRecDepth 20000 in
theorem ck_27 : chkM 27 none = true := by decide +kernel
set_option maxRecDepth 20000 in
theorem ck_28 : chkM 28 (some .int) = true := by decide +kernel
set_option maxRecDepth 20000 in
theorem ck_29 : chkM 29 none = true := by decide +kernel
set_option maxRecDepth 20000 in
theorem ck_30 : chkM 30 none = true := by decide +kernel
set_option maxRecDepth 20000 in
theorem ck_31 : chkM 31 none = true := by decide +kernel
set_option maxRecDepth 20000 in
theorem ck_32 : chkM 32 none = true := by decide +kernel
set_option maxRecDepth 20000 in
theorem ck_33 : chkM 33 (some .int) = true := by decide +kernel
set_option maxRecDepth 20000 in
theorem ck_34 : chkM 34 (some .int) = true := by decide +kernel
set_option maxRecDepth 20000 in
theorem ck_35 : chkM 35 (some .int) = true := by decide +kernel
set_option maxRecDepth 20000 in
theorem ck_36 : chkM 36 none = true := by decide +kernel
set_option maxRecDepth 20000 in
theorem ck_37 : chkM 37 none = true := by decide +kernel
set_option maxRecDepth 20000 in
theorem ck_38 : chkM 38 none = true := by decide +kernel
set_option maxRecDepth 20000 in
theorem ck_39 : chkM 39 none = true := by decide +kernel
set_option maxRecDepth 20000 in
theorem ck_40 : chkM 40 none = true := by decide +kernel
set_option maxRecDepth 20000 in
theorem ck_41 : chkM 41 none = true := by decide +kernel
set_option maxRecDepth 20000 in
theorem ck_42 : chkM 42 none = true := by decide +kernel
set_option maxRecDepth 20000 in
theorem ck_43 : chkM 43 (some .boolean) = true := by decide +kernel
set_option maxRecDepth 20000 in
theorem ck_44 : chkM 44 (some .boolean) = true := by decide +kernel
set_option maxRecDepth 20000 in
theorem ck_45 : chkM 45 (some .boolean) = true := by decide +kernel
set_option maxRecDepth 20000 in
theorem ck_46 : chkM 46 (some .boolean) = true := by decide +kernel
set_option maxRecDepth 20000 in
theorem ck_47 : chkM 47 (some .boolean) = true := by decide +kernel
set_option maxRecDepth 20000 in
theorem ck_48 : chkM 48 none = true := by decide +kernel
set_option maxRecDepth 20000 in
theorem ck_49 : chkM 49 (some .int) = true := by decide +kernel
set_option maxRecDepth 20000 in
theorem ck_50 : chkM 50 (some .int) = true := by decide +kernel
set_option maxRecDepth 20000 in
theorem ck_51 : chkM 51 (some .int) = true := by decide +kernel
set_option maxRecDepth 20000 in
theorem ck_52 : chkM 52 (some .int) = true := by decide +kernel
set_option maxRecDepth 20000 in
theorem ck_53 : chkM 53 (some .int) = true := by decide +kernel
set_option maxRecDepth 20000 in
theorem ck_54 : chkM 54 (some .int) = true := by decide +kernel
