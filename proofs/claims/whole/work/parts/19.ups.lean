section JCU
variable {y : jc_Y} {pc : Nat} {ls : List (Option jc_V)} {st : List jc_V} {I : jc_I} {O : jc_O} {live : jc_L → Prop} {nc ns : Nat} {Z : jc_Z}
theorem jr_retX {v : Option jc_V} (hd : decode y.2.1 pc = .ok (jc_rins v, 1)) (h1 : nc ≤ Z.2.2.2.2.1) (h2 : ns ≤ Z.2.2.2.2.2) (z1 : Z.1 = v) (z2 : Z.2.1 = I) (z3 : Z.2.2.1 = O) (z4 : Z.2.2.2.1 = live) : jc_R y pc ls v.toList I O live nc ns Z := by
  obtain ⟨a, b, c, d, e, f⟩ := Z
  subst z1; subst z2; subst z3; subst z4
  exact jr_ret hd h1 h2 rfl
theorem jr_mmax {idx : Nat} {x z : Int32} (hd : decode y.2.1 pc = .ok (.invokestatic idx, 3)) (hlk : Cond.methodLink y.1.cls idx y_aM_max.1 ∈ lw_tbl) (hf : 1 ≤ y.2.2.2.2.1) (hlo : st.length + 13 ≤ y.2.2.2.2.2) (h1 : nc ≤ Z.2.2.2.2.1) (h2 : ns ≤ Z.2.2.2.2.2) (h : jc_R y (pc + 3) ls (.inl (if x < z then z else x) :: st) I O live nc ns Z) : jc_R y pc ls (.inl z :: .inl x :: st) I O live nc ns Z := by
  intro s0 G p l e R s m args below meth c H locs α la Q hC hcc hss hR hS hk hkl hl hn K
  obtain ⟨hBs, hW, hx, hb, hml, hown, hnm, g1, g2, -⟩ := id hC
  refine va_mmax hx hb (by rw [hml]; exact hl.1.symm) hown (jc_w hBs hW hlk rfl) (jc_w hBs hW k_aM_max.2 rfl) (jc_w hBs hW k_aM_max.1.2.1 rfl) (jc_w hBs hW (show Cond.code Lib.Math.max.name Lib.Math.max.code 2 (some .int) ∈ lw_tbl from k_aM_max.1.1) rfl) (Nat.le_trans hf g1) (by rw [jc_sum]; omega) (Nat.le_trans h1 hcc) (Nat.le_trans h2 hss) hd ?_
  exact h s0 G p l e R s m args below meth c H locs α la Q hC hcc hss hR hS (jc_oks_cons jc_ok_i (jc_oks_tl (jc_oks_tl hk))) hkl hl hn K
theorem jr_mmin {idx : Nat} {x z : Int32} (hd : decode y.2.1 pc = .ok (.invokestatic idx, 3)) (hlk : Cond.methodLink y.1.cls idx y_aM_min.1 ∈ lw_tbl) (hf : 1 ≤ y.2.2.2.2.1) (hlo : st.length + 13 ≤ y.2.2.2.2.2) (h1 : nc ≤ Z.2.2.2.2.1) (h2 : ns ≤ Z.2.2.2.2.2) (h : jc_R y (pc + 3) ls (.inl (if z < x then z else x) :: st) I O live nc ns Z) : jc_R y pc ls (.inl z :: .inl x :: st) I O live nc ns Z := by
  intro s0 G p l e R s m args below meth c H locs α la Q hC hcc hss hR hS hk hkl hl hn K
  obtain ⟨hBs, hW, hx, hb, hml, hown, hnm, g1, g2, -⟩ := id hC
  refine va_mmin hx hb (by rw [hml]; exact hl.1.symm) hown (jc_w hBs hW hlk rfl) (jc_w hBs hW k_aM_min.2 rfl) (jc_w hBs hW k_aM_min.1.2.1 rfl) (jc_w hBs hW (show Cond.code Lib.Math.min.name Lib.Math.min.code 2 (some .int) ∈ lw_tbl from k_aM_min.1.1) rfl) (Nat.le_trans hf g1) (by rw [jc_sum]; omega) (Nat.le_trans h1 hcc) (Nat.le_trans h2 hss) hd ?_
  exact h s0 G p l e R s m args below meth c H locs α la Q hC hcc hss hR hS (jc_oks_cons jc_ok_i (jc_oks_tl (jc_oks_tl hk))) hkl hl hn K
theorem jc_up_s {β : Type} (f : jc_L → Nat → β) (q : jc_L) (k : Nat) (v : β) : jc_up f q k v q k = v := if_pos ⟨rfl, rfl⟩
theorem jc_up_k {β : Type} (f : jc_L → Nat → β) (q q' : jc_L) (k k' : Nat) (v : β) (h : k' ≠ k) : jc_up f q k v q' k' = f q' k' := if_neg (fun e => h e.2)
theorem jc_up_q {β : Type} (f : jc_L → Nat → β) (q q' : jc_L) (k k' : Nat) (v : β) (h : q' ≠ q) : jc_up f q k v q' k' = f q' k' := if_neg (fun e => h e.1)
theorem jc_up_t {β : Type} (f : jc_L → Nat → β) (t t' : Nat) (u u' : Nat × Nat) (k k' : Nat) (v : β) (h : t' ≠ t) : jc_up f (t, u) k v (t', u') k' = f (t', u') k' := if_neg (fun e => h (congrArg Prod.fst e.1))
theorem jc_cl_s {β : Type} (f : jc_L → Nat → β) (q : jc_L) (k : Nat) (v : β) : jc_cl f q v q k = v := if_pos rfl
theorem jc_cl_t {β : Type} (f : jc_L → Nat → β) (t t' : Nat) (u u' : Nat × Nat) (k' : Nat) (v : β) (h : t' ≠ t) : jc_cl f (t, u) v (t', u') k' = f (t', u') k' := if_neg (fun e => h (congrArg Prod.fst e))
end JCU
