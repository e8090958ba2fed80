/-! THE LAW'S START: the environment. -/
theorem eq_i {args : Array Value} {s : State} {t : Term} {v : Int32} (h : (Cond.eq t (.int v)).before args s = true) : t.eval args s none [] s = some (.int v) := by
  simp only [Cond.before, Cond.holds, Cond.value] at h
  cases hq : t.eval args s none [] s with
  | none => simp [hq, Term.eval] at h
  | some w =>
    simp [hq, Term.eval] at h
    cases w <;> simp at h
    subst h
    rfl
section ENV
variable {p : Program} {s : State} {m : MethodId} {meth : Method} {c : Code} {b L : Nat} {xs : Nat → Int32}
theorem law_env (C0 : lw_At p s m meth c b L xs) : ∃ (D : va_G) (cs : Nat → ClassId) (st adV : Nat → Nat), Es D cs st adV (fun q => s.heap.size ≤ q) s ∧ Ec D cs s := by
  obtain ⟨hx, hb, hr, hml, hown, hts, hX, hbl, hlocks, hgv⟩ := C0
  have hf : ∀ c ∈ flP, c.before #[Value.ref b] s = true := flat_of_before _ hgv
  have htw : ∀ w ∈ wsL_law, w.before #[Value.ref b] s = true := fun w hw => hts w (wsL_law_in w hw)
  have hA : ∀ a : Nat, a < s.heap.size → ¬ s.heap.size ≤ a := fun a h1 h2 => by omega
  obtain ⟨st, adV, hS, hev⟩ := vk_Sof (A := fun q => s.heap.size ≤ q) (args := #[Value.ref b]) (s := s) (N := 12) (tm := tmS) (len := sln) (byt := sT) (by decide +kernel) (fun i hi => hf _ (fp_ex i hi)) (fun i hi => hf _ (fp_co i hi)) (fun i hi => hf _ (fp_ar i hi)) (fun i hi => hf _ (fp_le i hi)) (fun i hi j hj => hf _ (fp_el i hi j hj)) (fun i j hi hj hij => (fp_ne i hi j hj hij).imp (fun h => hf _ h) (fun h => hf _ h)) hA
  obtain ⟨t1, t2, t3, t4, t5, t6, t7⟩ := tb_st
  obtain ⟨w44, w62, -, -⟩ := wds_n
  obtain ⟨c0, i0, k0⟩ := u_known htw inlX0 (htw _ (wq_at (i := 25) (w := .instantiable RX0 6) (by decide +kernel)))
  obtain ⟨c1, i1, k1⟩ := u_known htw inlX1 (htw _ (wq_at (i := 20) (w := .instantiable RX1 9) (by decide +kernel)))
  obtain ⟨c2, i2, k2⟩ := u_known htw inlX2 (htw _ (wq_at (i := 34) (w := .instantiable RX2 3) (by decide +kernel)))
  obtain ⟨c3, i3, k3⟩ := u_known htw inlX3 (htw _ (wq_at (i := 11) (w := .instantiable RX3 9) (by decide +kernel)))
  obtain ⟨c4, i4, k4⟩ := u_known htw inlX4 (htw _ (wq_at (i := 15) (w := .instantiable RX4 19) (by decide +kernel)))
  obtain ⟨c5, i5, k5⟩ := u_known htw inlX5 (htw _ (wq_at (i := 30) (w := .instantiable RX5 10) (by decide +kernel)))
  obtain ⟨c6, i6, k6⟩ := u_known htw inlX6 (htw _ (wq_at (i := 1) (w := .instantiable RX6 10) (by decide +kernel)))
  obtain ⟨a0, n0, m0, e01, e02, e03⟩ := Cond.arrayClass_spec (htw _ (wq_at w44))
  obtain ⟨a1, n1, m1, e11, e12, e13⟩ := Cond.arrayClass_spec (htw _ (wq_at w62))
  obtain ⟨a5, n5, m5, e51, e52, e53⟩ := Cond.arrayClass_spec (htw _ (wq_at (i := 103) (w := .arrayClass .long) (by decide +kernel)))
  obtain ⟨m2, a2, n2, e21, -, e22, e23, e24⟩ := Cond.arrayOver_spec (hts _ t5)
  obtain ⟨m3, a3, n3, e31, -, e32, e33, e34⟩ := Cond.arrayOver_spec (hts _ t6)
  obtain ⟨m4, a4, n4, e41, e42, e43, e44⟩ := Cond.arrayOver_specA (hts _ t7)
  have hK : va_K (fun c => match c with | 0 => c0 | 1 => c1 | 2 => c2 | 3 => c3 | 4 => c4 | 5 => c5 | _ => c6, fun c => match c with | 0 => i0 | 1 => i1 | 2 => i2 | 3 => i3 | 4 => i4 | 5 => i5 | _ => i6) vwCl (tyL (fun c => match c with | 0 => a0 | 1 => a1 | 2 => a2 | 3 => a3 | 4 => a4 | _ => a5)) s := by
    refine ⟨fun c q hq => ?_, fun k q hk => ?_⟩
    · match c, hq with
      | 0, hq => cases hq; exact k0
      | 1, hq => cases hq; exact k1
      | 2, hq => cases hq; exact k2
      | 3, hq => cases hq; exact k3
      | 4, hq => cases hq; exact k4
      | 5, hq => cases hq; exact k5
      | 6, hq => cases hq; exact k6
      | c + 7, hq => cases hq
    · match k, hk with
      | 0, hk => cases hk; exact ⟨fun N z => ⟨(fun k h => by cases h), n0, e02, m0, e03⟩, e01⟩
      | 1, hk => cases hk; exact ⟨fun N z => ⟨(fun k h => by cases h), n1, e12, m1, e13⟩, e11⟩
      | 2, hk => cases hk; exact ⟨fun N z => ⟨(fun k h => by cases h), n2, e22, m2, e23⟩, n2, m2, e22, e23, e21, e24⟩
      | 3, hk => cases hk; exact ⟨fun N z => ⟨(fun k h => by cases h), n3, e32, m3, e33⟩, n3, m3, e32, e33, e31, e34⟩
      | 4, hk => cases hk; exact ⟨fun N z => ⟨(fun k h => by cases h), n4, e42, m4, e43⟩, e44⟩
      | 5, hk => cases hk; exact ⟨fun N z => ⟨(fun k h => by cases h), n5, e52, m5, e53⟩, e51⟩
      | k + 6, hk => cases hk
  refine ⟨_, _, st, adV, ⟨hK, hS, va_Zof (hts _ t1) (hts _ t3) (eq_i (hf _ fp_st.1)) hA, va_Zqof (hts _ t2) (hts _ t4) (hf _ fp_st.2) hA, fun i hi => vk_R.of (hts _ (tb_rf i hi)) (hev i hi), fun q hq => va_Nw.of rfl (hts _ (tb_ns q hq))⟩, hK, va_AO.of (hts _ t5), va_AO.of (hts _ t6), va_AOA.of (hts _ t7)⟩
end ENV
