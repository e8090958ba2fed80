/-! CONSTRUCTORS of Minds, Scene, Tape, Told; the rows of the others. -/
def bk0 : List Bk_ := [(2, 24, 0, 1, 9, 75), (2, 24, 0, 2, 15, 76), (2, 6, 0, 3, 18, 77), (2, 6, 0, 4, 21, 78), (1, 4, 0, 5, 24, 79)]
def bk1 : List Bk_ := [(2, 24, 0, 1, 9, 66), (2, 24, 0, 2, 15, 67), (2, 24, 1, 3, 18, 68), (2, 12, 0, 6, 22, 69), (2, 12, 1, 7, 25, 70)]
def bk3 : List Bk_ := [(3, 400, 0, 0, 9, 41)]
def bk4 : List Bk_ := [(2, 8, 0, 4, 9, 46), (2, 8, 0, 5, 15, 47), (2, 12, 0, 6, 18, 48), (2, 12, 0, 7, 21, 49), (2, 12, 0, 8, 24, 50), (2, 12, 0, 9, 27, 51), (2, 12, 0, 10, 30, 52), (2, 12, 0, 11, 33, 53), (1, 4, 0, 12, 36, 54), (2, 6, 0, 13, 39, 55), (2, 6, 0, 14, 42, 56), (2, 6, 0, 15, 45, 57), (2, 6, 1, 16, 48, 59), (2, 6, 0, 17, 52, 60), (2, 6, 0, 18, 55, 61)]
def bk5 : List Bk_ := [(1, 5, 0, 0, 9, 84), (1, 4, 0, 2, 15, 85), (1, 4, 0, 4, 18, 86)]
def bk2 : List Bk_ := [(1, 4, 0, 0, 9, 95), (1, 4, 0, 1, 15, 96)]
set_option maxRecDepth 20000 in
theorem mio0 {l : Launch} {D : va_G} {cs : Nat → ClassId} {o sz : Nat} : Met l yX0_init (.code yX0_init cX0_init 1 none :: wsL_law) { frames := 1, cells := 5, slots := 64, locals := 40 } (iPc D cs o sz 0) (iQc D cs o sz 0 mZ) 5 64 (va_A [(o, .inr (0, dfv 0))] sz) := by
  refine met_ini (own := RX0) (bs := bk0) (i := 3) (w := 74) (by decide +kernel) rfl rfl (by decide) (by decide +kernel) (by decide +kernel) (by decide +kernel) (by decide +kernel) (by decide +kernel) (by decide +kernel) ?_
  intro qs hq
  match qs, hq with
  | [q0, q1, q2, q3, q4], _ => exact ⟨fun p => [o, 0, q0, q1, q2, q3, q4].getD p 0, rfl, rfl⟩
set_option maxRecDepth 20000 in
theorem mi1 {l : Launch} {D : va_G} {cs : Nat → ClassId} {o sz : Nat} : Met l yX1_init (.code yX1_init cX1_init 1 none :: wsL_law) { frames := 1, cells := 5, slots := 96, locals := 40 } (iPc D cs o sz 1) (iQc D cs o sz 1 mZ) 5 96 (va_A [(o, .inr (1, dfv 1))] sz) := by
  refine met_ini (own := RX1) (bs := bk1) (i := 3) (w := 65) (by decide +kernel) rfl rfl (by decide) (by decide +kernel) (by decide +kernel) (by decide +kernel) (by decide +kernel) (by decide +kernel) (by decide +kernel) ?_
  intro qs hq
  match qs, hq with
  | [q0, q1, q2, q3, q4], _ => exact ⟨fun p => [o, 0, q0, q1, q2, 0, 0, q3, q4, 0].getD p 0, rfl, rfl⟩
set_option maxRecDepth 20000 in
theorem mi3 {l : Launch} {D : va_G} {cs : Nat → ClassId} {o sz : Nat} : Met l yX3_init (.code yX3_init cX3_init 1 none :: wsL_law) { frames := 1, cells := 1, slots := 400, locals := 40 } (iPc D cs o sz 3) (iQc D cs o sz 3 mZ) 1 400 (va_A [(o, .inr (3, dfv 3))] sz) := by
  refine met_ini (own := RX3) (bs := bk3) (i := 3) (w := 40) (by decide +kernel) rfl rfl (by decide) (by decide +kernel) (by decide +kernel) (by decide +kernel) (by decide +kernel) (by decide +kernel) (by decide +kernel) ?_
  intro qs hq
  match qs, hq with
  | [q0], _ => exact ⟨fun p => [o, q0, 0, 0, 0, 0, 0, 0, 0, 0].getD p 0, rfl, rfl⟩
set_option maxRecDepth 20000 in
theorem mi4 {l : Launch} {D : va_G} {cs : Nat → ClassId} {o sz : Nat} : Met l yX4_init (.code yX4_init cX4_init 1 none :: wsL_law) { frames := 1, cells := 15, slots := 128, locals := 40 } (iPc D cs o sz 4) (iQc D cs o sz 4 mZ) 15 128 (va_A [(o, .inr (4, dfv 4))] sz) := by
  refine met_ini (own := RX4) (bs := bk4) (i := 3) (w := 45) (by decide +kernel) rfl rfl (by decide) (by decide +kernel) (by decide +kernel) (by decide +kernel) (by decide +kernel) (by decide +kernel) (by decide +kernel) ?_
  intro qs hq
  match qs, hq with
  | [q0, q1, q2, q3, q4, q5, q6, q7, q8, q9, q10, q11, q12, q13, q14], _ => exact ⟨fun p => [o, 0, 0, 0, 0, q0, q1, q2, q3, q4, q5, q6, q7, q8, q9, q10, q11, q12, q13, q14].getD p 0, rfl, rfl⟩
