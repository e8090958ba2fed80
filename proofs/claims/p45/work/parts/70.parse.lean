/-! A TEXT: tokens, lines; of lists and natural numbers. -/
section
/-- a token: kind (0 the end, 1 a name, 2 a number, 3 a semicolon, 4 a dash, 5 none), where it starts, where it stops -/
abbrev Tk_ : Type := Nat × Nat × Nat
/-- what a part of a text gives, or fault and place -/
abbrev Pr_ (α : Type) : Type := Except (Nat × Nat) α
def bnd {α β : Type} (r : Pr_ α) (f : α → Pr_ β) : Pr_ β := match r with
  | .error e => .error e
  | .ok a => f a
def cls (b : Nat → Nat) (n i : Nat) : Nat := if i < n then (if 97 ≤ b i ∧ b i ≤ 122 then 1 else if 48 ≤ b i ∧ b i ≤ 57 then 2 else if b i = 59 then 3 else if b i = 45 then 4 else 5) else 0
def run (p : Nat → Bool) : Nat → Nat → Nat
  | 0, i => i
  | k + 1, i => if p i = true then run p k (i + 1) else i
def skp (b : Nat → Nat) (n i : Nat) : Nat := run (fun j => decide (j < n) && b j == 32) (n - i) i
def ste (b : Nat → Nat) (n p : Nat) : Nat := if cls b n p = 0 then p else if cls b n p = 1 ∨ cls b n p = 2 then run (fun j => cls b n j == cls b n p) (n - (p + 1)) (p + 1) else p + 1
def tok (b : Nat → Nat) (n e : Nat) : Tk_ := (cls b n (skp b n e), skp b n e, ste b n (skp b n e))
def bad (k : Tk_) : Bool := k.1 == 5 || (k.1 == 2 && decide (2 < k.2.2 - k.2.1))
def nxt (b : Nat → Nat) (n e : Nat) : Pr_ Tk_ := if bad (tok b n e) = true then .error (1, (tok b n e).2.1) else .ok (tok b n e)
def wrd (b : Nat → Nat) (k : Tk_) : List Nat := (List.range (k.2.2 - k.2.1)).map fun i => b (k.2.1 + i)
/-- letters of a name, none of those forbidden -/
def lets (b : Nat → Nat) (fb : Nat) : Nat → Nat → Nat → Option Nat
  | 0, _, a => some a
  | r + 1, i, a => if b i - 97 < 8 ∧ (a ||| fb).testBit (b i - 97) = false then lets b fb r (i + 1) (a ||| 2 ^ (b i - 97)) else none
def nums (b : Nat → Nat) : Nat → Nat → Nat → Nat
  | 0, _, v => v
  | r + 1, i, v => nums b r (i + 1) (v * 10 + (b i - 48))
section
variable (b : Nat → Nat) (n : Nat)
def tkL (fb : Nat) (k : Tk_) : Pr_ (Nat × Tk_) := if k.1 = 1 then (match lets b fb (k.2.2 - k.2.1) k.2.1 0 with
  | none => .error (3, k.2.1)
  | some v => bnd (nxt b n k.2.2) fun q => .ok (v, q)) else if k.1 = 4 then bnd (nxt b n k.2.2) fun q => .ok (0, q) else .error (2, k.2.1)
def nmv (k : Tk_) : Nat := nums b (k.2.2 - k.2.1) k.2.1 0
def tkN (bd : Nat) (k : Tk_) : Pr_ (Nat × Tk_) := if k.1 = 2 then (if nmv b k < bd then bnd (nxt b n k.2.2) fun q => .ok (nmv b k, q) else .error (3, k.2.1)) else .error (2, k.2.1)
def aT (T : Td_) (v : Nat) : Td_ := (T.1 ++ [v], T.2.1, T.2.2.1, T.2.2.2)
def aM (T : Td_) (x y : Nat) : Td_ := (T.1, T.2.1 ++ [(x, y)], T.2.2.1, T.2.2.2)
def aS (T : Td_) (v : Nat) : Td_ := (T.1, T.2.1, T.2.2.1 ++ [v], T.2.2.2)
abbrev Kp_ : Type := Nat × Option Nat × Bool × Nat
def aK (T : Td_) (so : Nat) (κ : Kp_) : Td_ := (T.1, T.2.1, T.2.2.1, T.2.2.2 ++ [(so, κ)])
def w_thing : List Nat := [116, 104, 105, 110, 103]
def w_means : List Nat := [109, 101, 97, 110, 115]
def w_word : List Nat := [119, 111, 114, 100]
def w_plain : List Nat := [112, 108, 97, 105, 110]
def w_last : List Nat := [108, 97, 115, 116]
def w_careful : List Nat := [99, 97, 114, 101, 102, 117, 108]
def w_proud : List Nat := [112, 114, 111, 117, 100]
def w_not : List Nat := [110, 111, 116]
def w_sees : List Nat := [115, 101, 101, 115]
def w_fears : List Nat := [102, 101, 97, 114, 115]
def w_unlike : List Nat := [117, 110, 108, 105, 107, 101]
def w_chance : List Nat := [99, 104, 97, 110, 99, 101]
/-- what a name is: 0 to 3 a sort, 10 to 12 thing, means, word, 13 not, 14 to 17 what follows a kind -/
def codeW (w : List Nat) : Option Nat := if w = w_plain then some 0 else if w = w_last then some 1 else if w = w_careful then some 2 else if w = w_proud then some 3 else if w = w_thing then some 10 else if w = w_means then some 11 else if w = w_word then some 12 else if w = w_not then some 13 else if w = w_sees then some 14 else if w = w_fears then some 15 else if w = w_unlike then some 16 else if w = w_chance then some 17 else none
def codeK (k : Tk_) : Option Nat := if k.1 = 1 then codeW (wrd b k) else none
def rdThing (T : Td_) (k : Tk_) : Pr_ (Td_ × Tk_) := if nT T < 8 then bnd (nxt b n k.2.2) fun k1 => bnd (tkL b n 0 k1) fun p => .ok (aT T p.1, p.2) else .error (5, k.2.1)
def rdNot (T : Td_) (x : Nat) (k : Tk_) : Pr_ (Td_ × Tk_) := if k.1 = 1 then (if codeK b k = some 13 then bnd (nxt b n k.2.2) fun k1 => bnd (tkL b n x k1) fun p => .ok (aM T x p.1, p.2) else .error (2, k.2.1)) else .ok (aM T x 0, k)
def rdMean (T : Td_) (k : Tk_) : Pr_ (Td_ × Tk_) := if nM T < 12 then bnd (nxt b n k.2.2) fun k1 => bnd (tkL b n 0 k1) fun p => rdNot b n T p.1 p.2 else .error (5, k.2.1)
def rdWord (T : Td_) (k : Tk_) : Pr_ (Td_ × Tk_) := if nS T < 4 then bnd (nxt b n k.2.2) fun k1 => bnd (tkN b n (nM T) k1) fun p => .ok (aS T p.1, p.2) else .error (5, k.2.1)
/-- what follows a kind: 0 sees, 1 fears, 2 unlike, 3 chance -/
def wth (c : Nat) (T : Td_) (κ : Kp_) (k : Tk_) : Pr_ (Kp_ × Tk_) := if c = 0 then bnd (tkL b n 0 k) fun p => .ok ((p.1, κ.2.1, κ.2.2.1, κ.2.2.2), p.2) else if c = 1 then bnd (tkN b n (nT T) k) fun p => .ok ((κ.1, some p.1, κ.2.2.1, κ.2.2.2), p.2) else if c = 3 then bnd (tkN b n 10 k) fun p => .ok ((κ.1, κ.2.1, κ.2.2.1, p.1), p.2) else .ok ((κ.1, κ.2.1, true, κ.2.2.2), k)
def wcd (k : Tk_) : Option Nat := (codeK b k).bind fun c => if 14 ≤ c then some (c - 14) else none
def kk (T : Td_) : Nat → Kp_ → Nat → Tk_ → Pr_ (Kp_ × Tk_)
  | 0, _, _, _ => .error (1, 0)
  | r + 1, κ, U, k => if k.1 = 1 then (match wcd b k with
    | none => .error (2, k.2.1)
    | some c => if U.testBit c = true then .error (4, k.2.1) else bnd (nxt b n k.2.2) fun k1 => bnd (wth b n c T κ k1) fun p => kk T r p.1 (U ||| 2 ^ c) p.2) else .ok (κ, k)
def rdKind (T : Td_) (so : Nat) (k : Tk_) : Pr_ (Td_ × Tk_) := if nK T < 6 then bnd (nxt b n k.2.2) fun k1 => bnd (kk b n T (n + 1) (255, none, false, 1) 0 k1) fun p => .ok (aK T so p.1, p.2) else .error (5, k.2.1)
def rdBody (c : Nat) (T : Td_) (k : Tk_) : Pr_ (Td_ × Tk_) := if c = 10 then rdThing b n T k else if c = 11 then rdMean b n T k else if c = 12 then rdWord b n T k else rdKind b n T c k
def rdEnd (p : Td_ × Tk_) : Pr_ (Td_ × Tk_) := if p.2.1 = 3 then bnd (nxt b n p.2.2.2) fun k => .ok (p.1, k) else .error (2, p.2.2.1)
def lcd (k : Tk_) : Option Nat := (codeK b k).bind fun c => if c ≤ 12 then some c else none
def rdLine (T : Td_) (k : Tk_) : Pr_ (Td_ × Tk_) := match lcd b k with
  | none => .error (2, k.2.1)
  | some c => bnd (rdBody b n c T k) (rdEnd b n)
def rdAll : Nat → Td_ → Tk_ → Nat → Pr_ (Td_ × Nat)
  | 0, _, _, _ => .error (1, 0)
  | r + 1, T, k, c => if k.1 = 0 then .ok (T, c) else bnd (rdLine b n T k) fun p => rdAll r p.1 p.2 (c + 1)
def td0 : Td_ := ([], [], [], [])
def rdText : Pr_ (Td_ × Nat) := bnd (nxt b n 0) fun k => rdAll b n (n + 1) td0 k 0
/-- a token that stands well -/
def WTk (k : Tk_) : Prop := k.2.1 ≤ k.2.2 ∧ k.2.2 ≤ n ∧ k.1 < 5 ∧ (k.1 ≠ 0 → k.2.1 < k.2.2) ∧ (k.1 = 1 ∨ k.1 = 2 → ∀ j, k.2.1 ≤ j → j < k.2.2 → cls b n j = k.1) ∧ (k.1 = 2 → k.2.2 ≤ k.2.1 + 2)
end
section
variable {b : Nat → Nat} {n : Nat}
theorem run_ge {p : Nat → Bool} : ∀ (k i : Nat), i ≤ run p k i ∧ run p k i ≤ i + k ∧ ∀ j, i ≤ j → j < run p k i → p j = true
  | 0, i => ⟨Nat.le_refl _, Nat.le_refl _, fun j h1 h2 => by unfold run at h2; omega⟩
  | k + 1, i => by
    unfold run
    split
    · rename_i h
      obtain ⟨a1, a2, a3⟩ := run_ge (p := p) k (i + 1)
      refine ⟨by omega, by omega, fun j h1 h2 => ?_⟩
      by_cases z : j = i
      · rw [z]; exact h
      · exact a3 j (by omega) h2
    · exact ⟨Nat.le_refl _, by omega, fun j h1 h2 => by omega⟩
theorem cls_lt (i : Nat) : cls b n i < 6 := by unfold cls; repeat' split <;> try omega
theorem cls_in {i : Nat} (h : cls b n i ≠ 0) : i < n := by
  unfold cls at h
  split at h
  · assumption
  · exact absurd rfl h
theorem cls_1 {i : Nat} (h : cls b n i = 1) : 97 ≤ b i ∧ b i ≤ 122 := by
  unfold cls at h
  split at h
  · split at h
    · assumption
    · split at h
      · omega
      · split at h
        · omega
        · split at h <;> omega
  · omega
theorem cls_2 {i : Nat} (h : cls b n i = 2) : 48 ≤ b i ∧ b i ≤ 57 := by
  unfold cls at h
  split at h
  · split at h
    · omega
    · split at h
      · assumption
      · split at h
        · omega
        · split at h <;> omega
  · omega
theorem skp_ge {e : Nat} (he : e ≤ n) : e ≤ skp b n e ∧ skp b n e ≤ n := by
  obtain ⟨a, c, -⟩ := run_ge (p := fun j => decide (j < n) && b j == 32) (n - e) e
  unfold skp
  omega
theorem nxt_ok {e : Nat} {k : Tk_} (he : e ≤ n) (h : nxt b n e = .ok k) : WTk b n k ∧ e ≤ k.2.1 := by
  unfold nxt at h
  split at h
  · cases h
  · rename_i hb
    cases h
    have hs := skp_ge (b := b) he
    have hc := cls_lt (b := b) (n := n) (skp b n e)
    have hin := @cls_in b n (skp b n e)
    have hb : ¬ (cls b n (skp b n e) = 5 ∨ (cls b n (skp b n e) = 2 ∧ 2 < ste b n (skp b n e) - skp b n e)) := by
      intro g
      apply hb
      unfold bad tok
      rcases g with g | ⟨g1, g2⟩
      · simp [g]
      · simp [g1, g2]
    refine ⟨?_, hs.1⟩
    show skp b n e ≤ ste b n (skp b n e) ∧ ste b n (skp b n e) ≤ n ∧ cls b n (skp b n e) < 5 ∧ (cls b n (skp b n e) ≠ 0 → skp b n e < ste b n (skp b n e)) ∧ (cls b n (skp b n e) = 1 ∨ cls b n (skp b n e) = 2 → ∀ j, skp b n e ≤ j → j < ste b n (skp b n e) → cls b n j = cls b n (skp b n e)) ∧ (cls b n (skp b n e) = 2 → ste b n (skp b n e) ≤ skp b n e + 2)
    generalize skp b n e = p at *
    have hst : (cls b n p = 0 ∧ ste b n p = p) ∨ ((cls b n p = 1 ∨ cls b n p = 2) ∧ ste b n p = run (fun j => cls b n j == cls b n p) (n - (p + 1)) (p + 1)) ∨ (cls b n p ≠ 0 ∧ ¬ (cls b n p = 1 ∨ cls b n p = 2) ∧ ste b n p = p + 1) := by
      unfold ste
      by_cases h0 : cls b n p = 0
      · left; exact ⟨h0, if_pos h0⟩
      · by_cases h1 : cls b n p = 1 ∨ cls b n p = 2
        · right; left; exact ⟨h1, by rw [if_neg h0, if_pos h1]⟩
        · right; right; exact ⟨h0, h1, by rw [if_neg h0, if_neg h1]⟩
    rcases hst with ⟨h0, e1⟩ | ⟨h1, e1⟩ | ⟨h0, h1, e1⟩
    · refine ⟨by omega, by omega, by omega, by omega, by omega, by omega⟩
    · have hpn := hin (by omega)
      obtain ⟨a1, a2, a3⟩ := run_ge (p := fun j => cls b n j == cls b n p) (n - (p + 1)) (p + 1)
      refine ⟨by omega, by omega, by omega, by omega, fun _ j h2 h3 => ?_, by omega⟩
      by_cases z : j = p
      · rw [z]
      · have := a3 j (by omega) (by omega)
        simpa using this
    · have hpn := hin h0
      refine ⟨by omega, by omega, by omega, by omega, by omega, by omega⟩
theorem nxt_er {e : Nat} {x : Nat × Nat} (he : e ≤ n) (h : nxt b n e = .error x) : 0 < x.1 ∧ x.1 < 6 ∧ x.2 ≤ n := by
  unfold nxt at h
  split at h
  · cases h
    exact ⟨Nat.one_pos, (show 1 < 6 by decide), (skp_ge (b := b) he).2⟩
  · cases h
end
end
