theorem lp_aL_clear {I : jc_I} {O : jc_O} {live : jc_L → Prop} {x cap n : Nat} (hn : n ≤ cap) (hc : cap ≤ 100000) : ∀ (m r : Nat), r + m = n → jc_R y_aL_clear 27 [some (.inr (some (15, x, 0))), some (.inr (some (60, x, cap))), some (.inl (Int32.ofNat n)), some (.inl (Int32.ofNat r))] [] I (jc_zr O (60, x, cap) r none) live 0 0 (none, I, jc_zr O (60, x, cap) n none, live, 0, 0) := by
  intro m
  induction m with
  | zero =>
    intro r hm
    have a1 := jofI (n := r) (by omega)
    have a2 := jofI (n := n) (by omega)
    have hm2 : n = r := by omega
    refine jr_iload_n d_aL_clear_27 rfl rfl ?_
    refine jr_iload_n d_aL_clear_28 rfl rfl ?_
    refine jr_icmp_ge (tgt := 42) d_aL_clear_29 (by decide) (fun c29 => ?_) (fun c29 => ?_)
    · skip
      exact jr_retX (v := none) d_aL_clear_42 (by first | exact Nat.le_refl _ | exact Nat.zero_le _ | (dsimp only; omega)) (by first | exact Nat.le_refl _ | exact Nat.zero_le _ | (dsimp only; omega)) (by first | with_reducible rfl | (dsimp only; (rw [hm2]); done) | (exfalso; grind)) (by first | with_reducible rfl | (dsimp only; (rw [hm2]); done) | (exfalso; grind)) (by first | with_reducible rfl | (dsimp only; (rw [hm2]); done) | (exfalso; grind)) (by first | with_reducible rfl | (dsimp only; (rw [hm2]); done) | (exfalso; grind))
    · skip
      exfalso; rw [jle, a1, a2] at c29; omega
  | succ m ih =>
    intro r hm
    have a1 := jofI (n := r) (by omega)
    have a2 := jofI (n := n) (by omega)
    refine jr_iload_n d_aL_clear_27 rfl rfl ?_
    refine jr_iload_n d_aL_clear_28 rfl rfl ?_
    refine jr_icmp_ge (tgt := 42) d_aL_clear_29 (by decide) (fun c29 => ?_) (fun c29 => ?_)
    · skip
      exfalso; rw [jle, a1, a2] at c29; omega
    · skip
      refine jr_aload_n d_aL_clear_32 rfl rfl ?_
      refine jr_iload_n d_aL_clear_33 rfl rfl ?_
      refine jr_null d_aL_clear_34 ?_
      refine jr_aast d_aL_clear_35 rfl rfl rfl (jinv (by rw [jle, a1, j0I]; omega) (by rw [jofN (by omega)]; show r < cap; omega)) (fun q9 e9 => by cases e9) ?_
      rw [jofN (by omega), jc_zr_s]
      refine jr_iinc d_aL_clear_36 rfl jinc1 ?_
      refine jr_goto (tgt := 27) d_aL_clear_39 (by decide) ?_
      exact (by have e := ih (r + 1) (by omega); rw [← jof1 (by omega)] at e; exact e)
theorem ct_aL_clear {I : jc_I} {O : jc_O} {live : jc_L → Prop} {x cap n : Nat} (h0 : O (15, x, 0) 0 = some (60, x, cap)) (hs : I (15, x, 0) 1 = Int32.ofNat n) (hn : n ≤ cap) (hc : cap ≤ 100000) : jc_Ct y_aL_clear [.inr (some (15, x, 0))] I O live (none, jc_up (jc_up I (15, x, 0) 2 (I (15, x, 0) 2 + 1)) (15, x, 0) 1 0, jc_zr O (60, x, cap) n none, live, 0, 0) := by
  refine jc_Ct.ofF (by decide +kernel) (rfl) (Nat.le_of_ble_eq_true rfl) ?_
  refine jr_aload_n d_aL_clear_0 rfl rfl ?_
  refine jr_dup d_aL_clear_1 ?_
  refine jr_geti d_aL_clear_2 f_aL_63 rfl ?_
  refine jr_iconst (v := 1) d_aL_clear_5 (by decide) ?_
  refine jr_iadd d_aL_clear_6 ?_
  refine jr_puti d_aL_clear_7 f_aL_63 (Or.inl rfl) rfl ?_
  refine jr_aload_n d_aL_clear_10 rfl rfl ?_
  refine jr_getr d_aL_clear_11 f_aL_9 rfl rfl ?_
  try simp only [jc_up_s, jc_up_k, jc_up_t, jc_cl_s, jc_cl_t, ne_eq, Nat.reduceEqDiff, not_false_eq_true, Nat.reduceAdd]
  first | rw [h0] | skip
  refine jr_astore_n d_aL_clear_14 rfl (Nat.le_of_ble_eq_true rfl) ?_
  refine jr_aload_n d_aL_clear_15 rfl rfl ?_
  refine jr_geti d_aL_clear_16 f_aL_48 rfl ?_
  try simp only [jc_up_s, jc_up_k, jc_up_t, jc_cl_s, jc_cl_t, ne_eq, Nat.reduceEqDiff, not_false_eq_true, Nat.reduceAdd]
  rw [hs]
  refine jr_istore_n d_aL_clear_19 rfl (Nat.le_of_ble_eq_true rfl) ?_
  refine jr_aload_n d_aL_clear_20 rfl rfl ?_
  refine jr_iconst (v := 0) d_aL_clear_21 (by decide) ?_
  refine jr_dup_x1 d_aL_clear_22 ?_
  refine jr_puti d_aL_clear_23 f_aL_48 (Or.inl rfl) rfl ?_
  refine jr_istore_n d_aL_clear_26 rfl (Nat.le_of_ble_eq_true rfl) ?_
  exact (by have e := lp_aL_clear (I := jc_up (jc_up I (15, x, 0) 2 (I (15, x, 0) 2 + 1)) (15, x, 0) 1 0) (O := O) (live := live) (x := x) hn hc n 0 (by omega); rw [jc_zr_0] at e; exact e)
theorem ct_aL_clear0 {I : jc_I} {O : jc_O} {live : jc_L → Prop} {x : Nat} (h0 : O (15, x, 0) 0 = some (97, 0, 0)) (hs : I (15, x, 0) 1 = 0) : jc_Ct y_aL_clear [.inr (some (15, x, 0))] I O live (none, jc_up (jc_up I (15, x, 0) 2 (I (15, x, 0) 2 + 1)) (15, x, 0) 1 0, O, live, 0, 0) := by
  refine jc_Ct.ofF (by decide +kernel) (rfl) (Nat.le_of_ble_eq_true rfl) ?_
  refine jr_aload_n d_aL_clear_0 rfl rfl ?_
  refine jr_dup d_aL_clear_1 ?_
  refine jr_geti d_aL_clear_2 f_aL_63 rfl ?_
  refine jr_iconst (v := 1) d_aL_clear_5 (by decide) ?_
  refine jr_iadd d_aL_clear_6 ?_
  refine jr_puti d_aL_clear_7 f_aL_63 (Or.inl rfl) rfl ?_
  refine jr_aload_n d_aL_clear_10 rfl rfl ?_
  refine jr_getr d_aL_clear_11 f_aL_9 rfl rfl ?_
  try simp only [jc_up_s, jc_up_k, jc_up_t, jc_cl_s, jc_cl_t, ne_eq, Nat.reduceEqDiff, not_false_eq_true, Nat.reduceAdd]
  first | rw [h0] | skip
  refine jr_astore_n d_aL_clear_14 rfl (Nat.le_of_ble_eq_true rfl) ?_
  refine jr_aload_n d_aL_clear_15 rfl rfl ?_
  refine jr_geti d_aL_clear_16 f_aL_48 rfl ?_
  try simp only [jc_up_s, jc_up_k, jc_up_t, jc_cl_s, jc_cl_t, ne_eq, Nat.reduceEqDiff, not_false_eq_true, Nat.reduceAdd]
  rw [hs]
  refine jr_istore_n d_aL_clear_19 rfl (Nat.le_of_ble_eq_true rfl) ?_
  refine jr_aload_n d_aL_clear_20 rfl rfl ?_
  refine jr_iconst (v := 0) d_aL_clear_21 (by decide) ?_
  refine jr_dup_x1 d_aL_clear_22 ?_
  refine jr_puti d_aL_clear_23 f_aL_48 (Or.inl rfl) rfl ?_
  refine jr_istore_n d_aL_clear_26 rfl (Nat.le_of_ble_eq_true rfl) ?_
  refine jr_iload_n d_aL_clear_27 rfl rfl ?_
  refine jr_iload_n d_aL_clear_28 rfl rfl ?_
  refine jr_icmp_ge (tgt := 42) d_aL_clear_29 (by decide) (fun c29 => ?_) (fun c29 => ?_)
  · skip
    exact jr_retX (v := none) d_aL_clear_42 (by first | exact Nat.le_refl _ | exact Nat.zero_le _ | (dsimp only; omega)) (by first | exact Nat.le_refl _ | exact Nat.zero_le _ | (dsimp only; omega)) (by first | with_reducible rfl | (dsimp only; rfl; done) | (exfalso; grind)) (by first | with_reducible rfl | (dsimp only; rfl; done) | (exfalso; grind)) (by first | with_reducible rfl | (dsimp only; rfl; done) | (exfalso; grind)) (by first | with_reducible rfl | (dsimp only; rfl; done) | (exfalso; grind))
  · skip
    exact absurd (by decide) c29
/-- the length of a list's array -/
def lcap (O : jc_O) (x : Nat) : Nat := match O (15, x, 0) 0 with
  | some q => if q.1 = 60 then q.2.2 else 0
  | none => 0
/-- ArrayList.add -/
def l_add (I : jc_I) (O : jc_O) (live : jc_L → Prop) (x : Nat) (e : jc_L) : jc_S :=
  if (I (15, x, 0) 1).toNatClampNeg < lcap O x then (jc_up (jc_up I (15, x, 0) 2 (I (15, x, 0) 2 + 1)) (15, x, 0) 1 (I (15, x, 0) 1 + 1), jc_up O (60, x, lcap O x) (I (15, x, 0) 1).toNatClampNeg (some e), live, 0, 0)
  else if lcap O x = 0 then (jc_up (jc_cl (jc_up I (15, x, 0) 2 (I (15, x, 0) 2 + 1)) (60, x, 10) 0) (15, x, 0) 1 (I (15, x, 0) 1 + 1), jc_up (jc_up (jc_cl O (60, x, 10) none) (15, x, 0) 0 (some (60, x, 10))) (60, x, 10) (I (15, x, 0) 1).toNatClampNeg (some e), jadd (60, x, 10) live, 1, 10)
  else (jc_up (jc_cl (jc_up I (15, x, 0) 2 (I (15, x, 0) 2 + 1)) (60, x, lnc (lcap O x)) 0) (15, x, 0) 1 (I (15, x, 0) 1 + 1), jc_up (jc_up (jc_cp (jc_cl O (60, x, lnc (lcap O x)) none) (60, x, lcap O x) (60, x, lnc (lcap O x)) (lcap O x)) (15, x, 0) 0 (some (60, x, lnc (lcap O x)))) (60, x, lnc (lcap O x)) (I (15, x, 0) 1).toNatClampNeg (some e), jadd (60, x, lnc (lcap O x)) live, 1, lnc (lcap O x))
/-- a list of n elements, whose k-th is f k -/
def ql (I : jc_I) (O : jc_O) (live : jc_L → Prop) (x n : Nat) (f : Nat → jc_L) : Prop := (I (15, x, 0) 1 = Int32.ofNat n) ∧ (n ≤ lcap O x) ∧ (lcap O x ≤ 50000) ∧ (O (15, x, 0) 0 = if lcap O x = 0 then some (97, 0, 0) else some (60, x, lcap O x)) ∧ (∀ k, k < n → O (60, x, lcap O x) k = some (f k)) ∧ (∀ c, lcap O x < c → ¬ live (60, x, c)) ∧ (∀ k, k < n → jc_sto "java/lang/Object" (some (f k)))
theorem ql.sz {I : jc_I} {O : jc_O} {live : jc_L → Prop} {x n : Nat} {f : Nat → jc_L} (h9 : ql I O live x n f) : I (15, x, 0) 1 = Int32.ofNat n := h9.1
theorem ql.le {I : jc_I} {O : jc_O} {live : jc_L → Prop} {x n : Nat} {f : Nat → jc_L} (h9 : ql I O live x n f) : n ≤ lcap O x := h9.2.1
theorem ql.cp {I : jc_I} {O : jc_O} {live : jc_L → Prop} {x n : Nat} {f : Nat → jc_L} (h9 : ql I O live x n f) : lcap O x ≤ 50000 := h9.2.2.1
theorem ql.ar {I : jc_I} {O : jc_O} {live : jc_L → Prop} {x n : Nat} {f : Nat → jc_L} (h9 : ql I O live x n f) : O (15, x, 0) 0 = if lcap O x = 0 then some (97, 0, 0) else some (60, x, lcap O x) := h9.2.2.2.1
theorem ql.el {I : jc_I} {O : jc_O} {live : jc_L → Prop} {x n : Nat} {f : Nat → jc_L} (h9 : ql I O live x n f) : ∀ k, k < n → O (60, x, lcap O x) k = some (f k) := h9.2.2.2.2.1
theorem ql.fr {I : jc_I} {O : jc_O} {live : jc_L → Prop} {x n : Nat} {f : Nat → jc_L} (h9 : ql I O live x n f) : ∀ c, lcap O x < c → ¬ live (60, x, c) := h9.2.2.2.2.2.1
theorem ql.st {I : jc_I} {O : jc_O} {live : jc_L → Prop} {x n : Nat} {f : Nat → jc_L} (h9 : ql I O live x n f) : ∀ k, k < n → jc_sto "java/lang/Object" (some (f k)) := h9.2.2.2.2.2.2
theorem lnc_lt {c : Nat} : c < lnc c := by unfold lnc; omega
theorem lnc_le {c : Nat} (h : c ≤ 50000) : lnc c ≤ 100000 := by unfold lnc; omega
theorem ct_aL_add {I : jc_I} {O : jc_O} {live : jc_L → Prop} {x n : Nat} {f : Nat → jc_L} {e : jc_L} (h : ql I O live x n f) (hs : jc_sto "java/lang/Object" (some e)) : jc_Ct y_aL_add1 [.inr (some (15, x, 0)), .inr (some e)] I O live (some (.inl 1), (l_add I O live x e).1, (l_add I O live x e).2.1, (l_add I O live x e).2.2.1, (l_add I O live x e).2.2.2.1, (l_add I O live x e).2.2.2.2) := by
  have hsn : (I (15, x, 0) 1).toNatClampNeg = n := by rw [h.sz, jofN (by have := h.le; have := h.cp; omega)]
  have hp : 0 ≤ I (15, x, 0) 1 := by rw [h.sz, jle, jofI (by have := h.le; have := h.cp; omega), j0I]; omega
  have hcp := h.cp
  have har := h.ar
  unfold l_add
  by_cases h1 : (I (15, x, 0) 1).toNatClampNeg < lcap O x
  · rw [if_pos h1]
    rw [if_neg (by omega)] at har
    exact ct_aL_add1_S hs har hp h1 (by omega)
  · rw [if_neg h1]
    by_cases h2 : lcap O x = 0
    · rw [if_pos h2]
      rw [if_pos h2] at har
      have hn : n = 0 := by have := h.le; omega
      exact ct_aL_add1_E hs har (by rw [h.sz, hn]; rfl) (h.fr 10 (by omega))
    · rw [if_neg h2]
      rw [if_neg h2] at har
      have hn : n = lcap O x := by have := h.le; omega
      exact ct_aL_add1_C hs har (by omega) hcp lnc_lt (lnc_le hcp) (h.fr _ lnc_lt) (fun i hi => by rw [h.el i (by omega)]; exact h.st i (by omega)) (by rw [h.sz, ← hn]) rfl
theorem ct_aL_getq {I : jc_I} {O : jc_O} {live : jc_L → Prop} {x n k : Nat} {f : Nat → jc_L} {i : Int32} (h : ql I O live x n f) (hi : i = Int32.ofNat k) (hk : k < n) : jc_Ct y_aL_get [.inr (some (15, x, 0)), .inl i] I O live (some (.inr (some (f k))), I, O, live, 0, 0) := by
  have hle := h.le
  have hcp := h.cp
  have har := h.ar
  rw [if_neg (by omega)] at har
  subst hi
  have e1 := jofI (n := k) (by omega)
  have e2 := jofI (n := n) (by omega)
  have e3 := jofN (n := k) (by omega)
  have := ct_aL_get (I := I) (live := live) (i := Int32.ofNat k) har (by rw [jle, e1, j0I]; omega) (by rw [h.sz, jlt, e1, e2]; omega) (by rw [e3]; omega)
  rw [e3, h.el k hk] at this
  exact this
theorem ct_aL_clearq {I : jc_I} {O : jc_O} {live : jc_L → Prop} {x n : Nat} {f : Nat → jc_L} (h : ql I O live x n f) : jc_Ct y_aL_clear [.inr (some (15, x, 0))] I O live (none, jc_up (jc_up I (15, x, 0) 2 (I (15, x, 0) 2 + 1)) (15, x, 0) 1 0, jc_zr O (60, x, lcap O x) n none, live, 0, 0) := by
  have hle := h.le
  have hcp := h.cp
  have har := h.ar
  by_cases h2 : lcap O x = 0
  · rw [if_pos h2] at har
    have hn : n = 0 := by omega
    subst hn
    rw [jc_zr_0]
    exact ct_aL_clear0 har h.sz
  · rw [if_neg h2] at har
    exact ct_aL_clear har h.sz hle (by omega)
