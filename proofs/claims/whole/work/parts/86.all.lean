/-! ALL CALLS: class and model answer alike from any state that both hold. -/
theorem all_ok : All_ := ⟨q_feed, q_end, q_text, q_fault, q_thing, q_meaning, q_word, q_kind, q_show, q_teach, q_undo, q_clear, q_shown, q_thinks, q_fits, q_same, q_fled, q_against, q_common, q_teaching, q_never, q_order, q_first, q_fears, q_answer, q_heard, q_left, q_ask, q_sure, q_likely, q_theirs, q_hush, q_meant, q_build, q_draw, q_keep, q_back, q_sheet, q_lay, q_read, q_torn, q_count⟩
theorem nI_00 : (0 : Int32) = nI 0 := by decide
theorem nI_11 : (1 : Int32) = nI 1 := by decide
theorem run_ok {L : Nat} (hL : L ≤ 2560) {O : Mem_} {A : A_} (h8 : O 8 0 1 0 = nI L) (hw : WA A) (hc : CI O A) (hm : MI (O 7 0) A) : ∃ O2, ex 41 218 18 [some (vr 8 0 0), some (vr 6 0 0), some (vr 7 0 0), some (vi 0)] [] O = some (1, O2) := by
  obtain ⟨O2, h⟩ := law_ok all_ok L hL (L + 1) 0 O A (by omega) (by omega) h8 hw hc hm
  exact ⟨O2, by rw [nI_00, nI_11]; exact h⟩
/-- the state at the start -/
def A0_ : A_ := (td0, sc0 td0, fun _ => none, (0, fun _ => 0), 0, fun _ => none, 0)
theorem WA_0 : WA A0_ := ⟨WT_td0, sc0_ok, (fun i c h => by cases h), ⟨Nat.zero_le _, fun j => (by decide : 0 < 256)⟩, (by decide : 0 < 10), (fun k x h => by cases h), (by decide : 0 < 10)⟩
