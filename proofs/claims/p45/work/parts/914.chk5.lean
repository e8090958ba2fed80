set_option maxRecDepth 20000 in
theorem ckL_0 : chkR 218 0 (some .boolean) = true := by decide +kernel
set_option maxRecDepth 20000 in
theorem ckL_1 : chkR 218 1 (some .boolean) = true := by decide +kernel
set_option maxRecDepth 20000 in
theorem ckL_2 : chkR 218 2 (some .boolean) = true := by decide +kernel
set_option maxRecDepth 20000 in
theorem ckL_3 : chkR 218 3 (some .boolean) = true := by decide +kernel
set_option maxRecDepth 20000 in
theorem ckL_4 : chkR 218 4 (some .boolean) = true := by decide +kernel
set_option maxRecDepth 20000 in
theorem ckL_5 : chkR 218 5 (some .boolean) = true := by decide +kernel
set_option maxRecDepth 20000 in
theorem ckL_6 : chkR 218 6 (some .boolean) = true := by decide +kernel
set_option maxRecDepth 20000 in
theorem ckL_7 : chkR 218 7 (some .boolean) = true := by decide +kernel
set_option maxRecDepth 20000 in
theorem ckL_8 : chkR 218 8 (some .boolean) = true := by decide +kernel
set_option maxRecDepth 20000 in
theorem ckL_9 : chkR 218 9 (some .boolean) = true := by decide +kernel
set_option maxRecDepth 20000 in
theorem ckL_10 : chkR 218 10 (some .boolean) = true := by decide +kernel
set_option maxRecDepth 20000 in
theorem ckL_11 : chkR 218 11 (some .boolean) = true := by decide +kernel
set_option maxRecDepth 20000 in
theorem ckL_12 : chkR 218 12 (some .boolean) = true := by decide +kernel
set_option maxRecDepth 20000 in
theorem ckL_13 : chkR 218 13 (some .boolean) = true := by decide +kernel
set_option maxRecDepth 20000 in
theorem ckL_14 : chkR 218 14 (some .boolean) = true := by decide +kernel
set_option maxRecDepth 20000 in
theorem ckL_15 : chkR 218 15 (some .boolean) = true := by decide +kernel
set_option maxRecDepth 20000 in
theorem ckL_16 : chkR 218 16 (some .boolean) = true := by decide +kernel
set_option maxRecDepth 20000 in
theorem ckL_17 : chkR 218 17 (some .boolean) = true := by decide +kernel
set_option maxRecDepth 20000 in
theorem ckL_18 : chkR 218 18 (some .boolean) = true := by decide +kernel
set_option maxRecDepth 20000 in
theorem ckL_19 : chkR 218 19 (some .boolean) = true := by decide +kernel
set_option maxRecDepth 20000 in
theorem ckL_20 : chkR 218 20 (some .boolean) = true := by decide +kernel
set_option maxRecDepth 20000 in
theorem ckL_21 : chkR 218 21 (some .boolean) = true := by decide +kernel
set_option maxRecDepth 20000 in
theorem ckL_22 : chkR 218 22 (some .boolean) = true := by decide +kernel
set_option maxRecDepth 20000 in
theorem ckL_23 : chkR 218 23 (some .boolean) = true := by decide +kernel
set_option maxRecDepth 20000 in
theorem ckL_24 : chkR 218 24 (some .boolean) = true := by decide +kernel
set_option maxRecDepth 20000 in
theorem ckL_25 : chkR 218 25 (some .boolean) = true := by decide +kernel
set_option maxRecDepth 20000 in
theorem ckL_26 : chkR 218 26 (some .boolean) = true := by decide +kernel
set_option maxRecDepth 20000 in
theorem ckL_27 : chkR 218 27 (some .boolean) = true := by decide +kernel
set_option maxRecDepth 20000 in
theorem ckL_28 : chkR 218 28 (some .boolean) = true := by decide +kernel
set_option maxRecDepth 20000 in
theorem ckL_29 : chkR 218 29 (some .boolean) = true := by decide +kernel
set_option maxRecDepth 20000 in
theorem ckL_30 : chkR 218 30 (some .boolean) = true := by decide +kernel
set_option maxRecDepth 20000 in
theorem ckL_31 : chkR 218 31 (some .boolean) = true := by decide +kernel
set_option maxRecDepth 20000 in
theorem ckL_32 : chkR 218 32 (some .boolean) = true := by decide +kernel
set_option maxRecDepth 20000 in
theorem ckL_33 : chkR 218 33 (some .boolean) = true := by decide +kernel
set_option maxRecDepth 20000 in
theorem ckL_34 : chkR 218 34 (some .boolean) = true := by decide +kernel
set_option maxRecDepth 20000 in
theorem ckL_35 : chkR 218 35 (some .boolean) = true := by decide +kernel
set_option maxRecDepth 20000 in
theorem ckL_36 : chkR 218 36 (some .boolean) = true := by decide +kernel
set_option maxRecDepth 20000 in
theorem ckL_37 : chkR 218 37 (some .boolean) = true := by decide +kernel
set_option maxRecDepth 20000 in
theorem ckL_38 : chkR 218 38 (some .boolean) = true := by decide +kernel
set_option maxRecDepth 20000 in
theorem ckL_39 : chkR 218 39 (some .boolean) = true := by decide +kernel
set_option maxRecDepth 20000 in
theorem ckL_40 : chkR 218 40 (some .boolean) = true := by decide +kernel
set_option maxRecDepth 20000 in
theorem ckL_41 : chkR 218 41 (some .boolean) = true := by decide +kernel
set_option maxRecDepth 20000 in
theorem ckL_42 : chkR 218 42 (some .boolean) = true := by decide +kernel
set_option maxRecDepth 20000 in
theorem ckL_43 : chkR 218 43 (some .boolean) = true := by decide +kernel
set_option maxRecDepth 20000 in
theorem ckL_44 : chkR 218 44 (some .boolean) = true := by decide +kernel
set_option maxRecDepth 20000 in
theorem ckL_45 : chkR 218 45 (some .boolean) = true := by decide +kernel
set_option maxRecDepth 20000 in
theorem ckL_46 : chkR 218 46 (some .boolean) = true := by decide +kernel
set_option maxRecDepth 20000 in
theorem ckL_47 : chkR 218 47 (some .boolean) = true := by decide +kernel
set_option maxRecDepth 20000 in
theorem ckLw_0 : ∀ a, a < 0 → chkR 218 a (some .boolean) = true := fun a h => absurd h (Nat.not_lt_zero a)
set_option maxRecDepth 20000 in
theorem ckLw_1 : ∀ a, a < 1 → chkR 218 a (some .boolean) = true := lt_s ckLw_0 ckL_0
set_option maxRecDepth 20000 in
theorem ckLw_2 : ∀ a, a < 2 → chkR 218 a (some .boolean) = true := lt_s ckLw_1 ckL_1
set_option maxRecDepth 20000 in
theorem ckLw_3 : ∀ a, a < 3 → chkR 218 a (some .boolean) = true := lt_s ckLw_2 ckL_2
set_option maxRecDepth 20000 in
theorem ckLw_4 : ∀ a, a < 4 → chkR 218 a (some .boolean) = true := lt_s ckLw_3 ckL_3
set_option maxRecDepth 20000 in
theorem ckLw_5 : ∀ a, a < 5 → chkR 218 a (some .boolean) = true := lt_s ckLw_4 ckL_4
set_option maxRecDepth 20000 in
theorem ckLw_6 : ∀ a, a < 6 → chkR 218 a (some .boolean) = true := lt_s ckLw_5 ckL_5
set_option maxRecDepth 20000 in
theorem ckLw_7 : ∀ a, a < 7 → chkR 218 a (some .boolean) = true := lt_s ckLw_6 ckL_6
set_option maxRecDepth 20000 in
theorem ckLw_8 : ∀ a, a < 8 → chkR 218 a (some .boolean) = true := lt_s ckLw_7 ckL_7
set_option maxRecDepth 20000 in
theorem ckLw_9 : ∀ a, a < 9 → chkR 218 a (some .boolean) = true := lt_s ckLw_8 ckL_8
set_option maxRecDepth 20000 in
theorem ckLw_10 : ∀ a, a < 10 → chkR 218 a (some .boolean) = true := lt_s ckLw_9 ckL_9
set_option maxRecDepth 20000 in
theorem ckLw_11 : ∀ a, a < 11 → chkR 218 a (some .boolean) = true := lt_s ckLw_10 ckL_10
set_option maxRecDepth 20000 in
theorem ckLw_12 : ∀ a, a < 12 → chkR 218 a (some .boolean) = true := lt_s ckLw_11 ckL_11
set_option maxRecDepth 20000 in
theorem ckLw_13 : ∀ a, a < 13 → chkR 218 a (some .boolean) = true := lt_s ckLw_12 ckL_12
set_option maxRecDepth 20000 in
theorem ckLw_14 : ∀ a, a < 14 → chkR 218 a (some .boolean) = true := lt_s ckLw_13 ckL_13
set_option maxRecDepth 20000 in
theorem ckLw_15 : ∀ a, a < 15 → chkR 218 a (some .boolean) = true := lt_s ckLw_14 ckL_14
set_option maxRecDepth 20000 in
theorem ckLw_16 : ∀ a, a < 16 → chkR 218 a (some .boolean) = true := lt_s ckLw_15 ckL_15
set_option maxRecDepth 20000 in
theorem ckLw_17 : ∀ a, a < 17 → chkR 218 a (some .boolean) = true := lt_s ckLw_16 ckL_16
set_option maxRecDepth 20000 in
theorem ckLw_18 : ∀ a, a < 18 → chkR 218 a (some .boolean) = true := lt_s ckLw_17 ckL_17
set_option maxRecDepth 20000 in
theorem ckLw_19 : ∀ a, a < 19 → chkR 218 a (some .boolean) = true := lt_s ckLw_18 ckL_18
set_option maxRecDepth 20000 in
theorem ckLw_20 : ∀ a, a < 20 → chkR 218 a (some .boolean) = true := lt_s ckLw_19 ckL_19
set_option maxRecDepth 20000 in
theorem ckLw_21 : ∀ a, a < 21 → chkR 218 a (some .boolean) = true := lt_s ckLw_20 ckL_20
set_option maxRecDepth 20000 in
theorem ckLw_22 : ∀ a, a < 22 → chkR 218 a (some .boolean) = true := lt_s ckLw_21 ckL_21
set_option maxRecDepth 20000 in
theorem ckLw_23 : ∀ a, a < 23 → chkR 218 a (some .boolean) = true := lt_s ckLw_22 ckL_22
set_option maxRecDepth 20000 in
theorem ckLw_24 : ∀ a, a < 24 → chkR 218 a (some .boolean) = true := lt_s ckLw_23 ckL_23
set_option maxRecDepth 20000 in
theorem ckLw_25 : ∀ a, a < 25 → chkR 218 a (some .boolean) = true := lt_s ckLw_24 ckL_24
set_option maxRecDepth 20000 in
theorem ckLw_26 : ∀ a, a < 26 → chkR 218 a (some .boolean) = true := lt_s ckLw_25 ckL_25
set_option maxRecDepth 20000 in
theorem ckLw_27 : ∀ a, a < 27 → chkR 218 a (some .boolean) = true := lt_s ckLw_26 ckL_26
set_option maxRecDepth 20000 in
theorem ckLw_28 : ∀ a, a < 28 → chkR 218 a (some .boolean) = true := lt_s ckLw_27 ckL_27
set_option maxRecDepth 20000 in
theorem ckLw_29 : ∀ a, a < 29 → chkR 218 a (some .boolean) = true := lt_s ckLw_28 ckL_28
set_option maxRecDepth 20000 in
theorem ckLw_30 : ∀ a, a < 30 → chkR 218 a (some .boolean) = true := lt_s ckLw_29 ckL_29
set_option maxRecDepth 20000 in
theorem ckLw_31 : ∀ a, a < 31 → chkR 218 a (some .boolean) = true := lt_s ckLw_30 ckL_30
set_option maxRecDepth 20000 in
theorem ckLw_32 : ∀ a, a < 32 → chkR 218 a (some .boolean) = true := lt_s ckLw_31 ckL_31
set_option maxRecDepth 20000 in
theorem ckLw_33 : ∀ a, a < 33 → chkR 218 a (some .boolean) = true := lt_s ckLw_32 ckL_32
set_option maxRecDepth 20000 in
theorem ckLw_34 : ∀ a, a < 34 → chkR 218 a (some .boolean) = true := lt_s ckLw_33 ckL_33
set_option maxRecDepth 20000 in
theorem ckLw_35 : ∀ a, a < 35 → chkR 218 a (some .boolean) = true := lt_s ckLw_34 ckL_34
set_option maxRecDepth 20000 in
theorem ckLw_36 : ∀ a, a < 36 → chkR 218 a (some .boolean) = true := lt_s ckLw_35 ckL_35
set_option maxRecDepth 20000 in
theorem ckLw_37 : ∀ a, a < 37 → chkR 218 a (some .boolean) = true := lt_s ckLw_36 ckL_36
set_option maxRecDepth 20000 in
theorem ckLw_38 : ∀ a, a < 38 → chkR 218 a (some .boolean) = true := lt_s ckLw_37 ckL_37
set_option maxRecDepth 20000 in
theorem ckLw_39 : ∀ a, a < 39 → chkR 218 a (some .boolean) = true := lt_s ckLw_38 ckL_38
set_option maxRecDepth 20000 in
theorem ckLw_40 : ∀ a, a < 40 → chkR 218 a (some .boolean) = true := lt_s ckLw_39 ckL_39
set_option maxRecDepth 20000 in
theorem ckLw_41 : ∀ a, a < 41 → chkR 218 a (some .boolean) = true := lt_s ckLw_40 ckL_40
set_option maxRecDepth 20000 in
theorem ckLw_42 : ∀ a, a < 42 → chkR 218 a (some .boolean) = true := lt_s ckLw_41 ckL_41
set_option maxRecDepth 20000 in
theorem ckLw_43 : ∀ a, a < 43 → chkR 218 a (some .boolean) = true := lt_s ckLw_42 ckL_42
set_option maxRecDepth 20000 in
theorem ckLw_44 : ∀ a, a < 44 → chkR 218 a (some .boolean) = true := lt_s ckLw_43 ckL_43
set_option maxRecDepth 20000 in
theorem ckLw_45 : ∀ a, a < 45 → chkR 218 a (some .boolean) = true := lt_s ckLw_44 ckL_44
set_option maxRecDepth 20000 in
theorem ckLw_46 : ∀ a, a < 46 → chkR 218 a (some .boolean) = true := lt_s ckLw_45 ckL_45
set_option maxRecDepth 20000 in
theorem ckLw_47 : ∀ a, a < 47 → chkR 218 a (some .boolean) = true := lt_s ckLw_46 ckL_46
set_option maxRecDepth 20000 in
theorem ckLw_48 : ∀ a, a < 48 → chkR 218 a (some .boolean) = true := lt_s ckLw_47 ckL_47
set_option maxRecDepth 20000 in
theorem ck_218 : chkM 218 (some .boolean) = true := chkR_all (n := 48) (by decide +kernel) ckLw_48
