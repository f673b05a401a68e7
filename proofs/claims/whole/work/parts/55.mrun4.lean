def q_bg (I : jc_I) (t j : Nat) (x : Int32) : jc_I := jc_zr (jc_up (jc_up (jc_up (jc_up I (14, t, 0) 2 (I (14, t, 0) 2 + 1)) (12, t, j) 1 x) (12, t, j) 4 0) (12, t, j) 5 0) (48, t, j) 8 0
def q_f1 (I : jc_I) (t j : Nat) : jc_I := jc_cl (jc_cl (jc_cl I (12, t, j) 0) (48, t, j) 0) (49, t, j) 0
def q_f1O (O : jc_O) (t j : Nat) : jc_O := jc_up (jc_cl (jc_up (jc_cl (jc_cl O (12, t, j) none) (48, t, j) none) (12, t, j) 2 (some (48, t, j))) (49, t, j) none) (12, t, j) 3 (some (49, t, j))
def q_f1l (live : jc_L → Prop) (t j : Nat) : jc_L → Prop := jadd (49, t, j) (jadd (48, t, j) (jadd (12, t, j) live))
theorem q_f1_t {I : jc_I} {t j a : Nat} {u : Nat × Nat} {k : Nat} (h1 : a ≠ 12) (h2 : a ≠ 48) (h3 : a ≠ 49) : q_f1 I t j (a, u) k = I (a, u) k := by
  unfold q_f1
  rw [jc_cl_t _ _ _ _ _ _ _ h3, jc_cl_t _ _ _ _ _ _ _ h2, jc_cl_t _ _ _ _ _ _ _ h1]
theorem q_f1O_t {O : jc_O} {t j a : Nat} {u : Nat × Nat} {k : Nat} (h1 : a ≠ 12) (h2 : a ≠ 48) (h3 : a ≠ 49) : q_f1O O t j (a, u) k = O (a, u) k := by
  unfold q_f1O
  rw [jc_up_t _ _ _ _ _ _ _ _ h1, jc_cl_t _ _ _ _ _ _ _ h3, jc_up_t _ _ _ _ _ _ _ _ h1, jc_cl_t _ _ _ _ _ _ _ h2, jc_cl_t _ _ _ _ _ _ _ h1]
theorem ql.f1 {I : jc_I} {O : jc_O} {live : jc_L → Prop} {y n t j : Nat} {f : Nat → jc_L} (h : ql I O live y n f) : ql (q_f1 I t j) (q_f1O O t j) (q_f1l live t j) y n f := by
  refine h.to (q_f1_t (by decide) (by decide) (by decide)) (q_f1O_t (by decide) (by decide) (by decide)) (fun c i => q_f1O_t (by decide) (by decide) (by decide)) (fun c hc => ?_)
  rcases hc with e | e | e | e
  · cases e
  · cases e
  · cases e
  · exact e
theorem lp_mT_push {I : jc_I} {O : jc_O} {live : jc_L → Prop} {t j nc ns mc ms : Nat} {x : Int32} {q : jc_L} (g1 : O (12, t, j) 2 = some (48, t, j)) (h1 : nc ≤ mc) (h2 : ns ≤ ms) : ∀ (m r : Nat), r + m = 8 → jc_R y_mT_push 77 [some (.inr (some (14, t, 0))), some (.inr (some q)), some (.inl x), some (.inr (some (12, t, j))), some (.inl (Int32.ofNat r))] [] (jc_zr I (48, t, j) r 0) O live nc ns (some (.inr (some (12, t, j))), jc_zr I (48, t, j) 8 0, O, live, mc, ms) := by
  intro m
  induction m with
  | zero =>
    intro r hm
    (have a1 := jofI (n := r) (by omega)); (have a3 := jofN (n := r) (by omega)); (have a8 : (8 : Int32).toInt = 8 := by decide)
    refine jr_iload d_mT_push_77 rfl ?_
    refine jr_bipush (v := 8) d_mT_push_79 (by decide) ?_
    refine jr_icmp_ge (tgt := 98) d_mT_push_81 (by decide) (fun c81 => ?_) (fun c81 => ?_)
    · skip
      refine jr_aload_n d_mT_push_98 rfl rfl ?_
      exact jr_retX (v := some _) d_mT_push_99 (by first | exact Nat.le_refl _ | exact Nat.zero_le _ | (dsimp only; omega) | (first | exact h1 | exact h2)) (by first | exact Nat.le_refl _ | exact Nat.zero_le _ | (dsimp only; omega) | (first | exact h1 | exact h2)) (by first | with_reducible rfl | (dsimp only; (rw [show r = 8 from by omega]); done) | (exfalso; grind)) (by first | with_reducible rfl | (dsimp only; (rw [show r = 8 from by omega]); done) | (exfalso; grind)) (by first | with_reducible rfl | (dsimp only; (rw [show r = 8 from by omega]); done) | (exfalso; grind)) (by first | with_reducible rfl | (dsimp only; (rw [show r = 8 from by omega]); done) | (exfalso; grind))
    · skip
      exfalso; rw [jle, a1, a8] at c81; omega
  | succ m ih =>
    intro r hm
    (have a1 := jofI (n := r) (by omega)); (have a3 := jofN (n := r) (by omega)); (have a8 : (8 : Int32).toInt = 8 := by decide)
    refine jr_iload d_mT_push_77 rfl ?_
    refine jr_bipush (v := 8) d_mT_push_79 (by decide) ?_
    refine jr_icmp_ge (tgt := 98) d_mT_push_81 (by decide) (fun c81 => ?_) (fun c81 => ?_)
    · skip
      exfalso; rw [jle, a1, a8] at c81; omega
    · skip
      refine jr_aload_n d_mT_push_84 rfl rfl ?_
      refine jr_getr d_mT_push_85 f_mT_63 rfl rfl ?_
      first | rw [g1] | skip
      refine jr_iload d_mT_push_88 rfl ?_
      refine jr_iconst (v := 0) d_mT_push_90 (by decide) ?_
      refine jr_iast d_mT_push_91 rfl rfl rfl (jinv (by rw [jle, a1, j0I]; omega) (by rw [a3]; show r < 8; omega)) ?_
      rw [a3, jc_zr_s]
      refine jr_iinc d_mT_push_92 rfl jinc1 ?_
      refine jr_goto (tgt := 77) d_mT_push_95 (by decide) ?_
      exact (by have e := ih (r + 1) (by omega); rw [← jof1 (by omega)] at e; exact e)
theorem ct_mT_push_old {I : jc_I} {O : jc_O} {live : jc_L → Prop} {t j xt n : Nat} {x : Int32} {q : jc_L} (hm1 : O (14, t, 0) 1 = some (15, xt, 0)) (hl : ql I O live xt n (qFr t)) (hd : I (14, t, 0) 2 = Int32.ofNat j) (hj : j < n) (hg : O (12, t, j) 2 = some (48, t, j)) : jc_Ct y_mT_push [.inr (some (14, t, 0)), .inr (some q), .inl x] I O live (some (.inr (some (12, t, j))), q_bg I t j x, jc_up O (12, t, j) 0 (some q), live, 0, 0) := by
  have hcp := hl.cp
  have hle := hl.le
  have a1 := jofI (n := j) (by omega)
  have a2 := jofI (n := n) (by omega)
  refine jc_Ct.of (by decide +kernel) (Or.inl ⟨_, rfl⟩) (Nat.le_of_ble_eq_true rfl) ?_
  refine jr_aload_n d_mT_push_0 rfl rfl ?_
  refine jr_geti d_mT_push_1 f_mT_22 rfl ?_
  refine jr_aload_n d_mT_push_4 rfl rfl ?_
  refine jr_getr d_mT_push_5 f_mT_12 rfl rfl ?_
  first | rw [hm1] | skip
  refine jv_V0r d_mT_push_8 l_mT_43 k_aL_size ⟨Nat.le_of_ble_eq_true rfl, Nat.le_of_ble_eq_true rfl⟩ rfl rfl (Nat.le_of_ble_eq_true rfl) (ct_aL_size) (by first | decide | exact Nat.zero_le _ | (dsimp only; omega) | (dsimp only; grind)) (by first | decide | exact Nat.zero_le _ | (dsimp only; omega) | (dsimp only; grind)) ?_
  refine jr_icmp_ne (tgt := 29) d_mT_push_11 (by decide) (fun c11 => ?_) (fun c11 => ?_)
  · skip
    refine jr_aload_n d_mT_push_29 rfl rfl ?_
    refine jr_getr d_mT_push_30 f_mT_12 rfl rfl ?_
    first | rw [hm1] | skip
    refine jr_aload_n d_mT_push_33 rfl rfl ?_
    refine jr_geti d_mT_push_34 f_mT_22 rfl ?_
    refine jv_V1r d_mT_push_37 l_mT_37 k_aL_get ⟨Nat.le_of_ble_eq_true rfl, Nat.le_of_ble_eq_true rfl⟩ rfl rfl (Nat.le_of_ble_eq_true rfl) (ct_aL_getq hl hd hj) (by first | decide | exact Nat.zero_le _ | (dsimp only; omega) | (dsimp only; grind)) (by first | decide | exact Nat.zero_le _ | (dsimp only; omega) | (dsimp only; grind)) ?_
    first | rw [hm1] | skip
    refine jr_cast d_mT_push_40 c_mT_41 rfl ⟨_, rfl, ca_mF_mF⟩ ?_
    refine jr_astore_n d_mT_push_43 rfl (Nat.le_of_ble_eq_true rfl) ?_
    refine jr_aload_n d_mT_push_44 rfl rfl ?_
    refine jr_dup d_mT_push_45 ?_
    refine jr_geti d_mT_push_46 f_mT_22 rfl ?_
    refine jr_iconst (v := 1) d_mT_push_49 (by decide) ?_
    refine jr_iadd d_mT_push_50 ?_
    refine jr_puti d_mT_push_51 f_mT_22 (Or.inl rfl) rfl ?_
    refine jr_aload_n d_mT_push_54 rfl rfl ?_
    refine jr_aload_n d_mT_push_55 rfl rfl ?_
    refine jr_putr d_mT_push_56 f_mT_52 (Or.inl rfl) rfl rfl ?_
    refine jr_aload_n d_mT_push_59 rfl rfl ?_
    refine jr_iload_n d_mT_push_60 rfl rfl ?_
    refine jr_puti d_mT_push_61 f_mT_56 (Or.inl rfl) rfl ?_
    refine jr_aload_n d_mT_push_64 rfl rfl ?_
    refine jr_iconst (v := 0) d_mT_push_65 (by decide) ?_
    refine jr_puti d_mT_push_66 f_mT_57 (Or.inl rfl) rfl ?_
    refine jr_aload_n d_mT_push_69 rfl rfl ?_
    refine jr_iconst (v := 0) d_mT_push_70 (by decide) ?_
    refine jr_puti d_mT_push_71 f_mT_60 (Or.inl rfl) rfl ?_
    refine jr_iconst (v := 0) d_mT_push_74 (by decide) ?_
    refine jr_istore d_mT_push_75 (Nat.le_of_ble_eq_true rfl) ?_
    exact (by have e := lp_mT_push (live := live) (nc := 0) (ns := 0) (mc := 0) (ms := 0) (I := jc_up (jc_up (jc_up (jc_up I (14, t, 0) 2 (I (14, t, 0) 2 + 1)) (12, t, j) 1 x) (12, t, j) 4 0) (12, t, j) 5 0) (O := jc_up O (12, t, j) 0 (some q)) (t := t) (j := j) (x := x) (q := q) (by rw [jc_up_k _ _ _ _ _ _ (by decide)]; exact hg) (by first | exact Nat.le_refl _ | omega) (by first | exact Nat.le_refl _ | omega) 8 0 (by omega); rw [jc_zr_0] at e; exact e)
  · skip
    exfalso; rw [hd, hl.sz] at c11; have c11 := congrArg Int32.toInt c11; rw [a1, a2] at c11; omega
theorem ct_mT_push_new {I : jc_I} {O : jc_O} {live : jc_L → Prop} {t j xt : Nat} {x : Int32} {q : jc_L} (hm1 : O (14, t, 0) 1 = some (15, xt, 0)) (hl : ql I O live xt j (qFr t)) (hd : I (14, t, 0) 2 = Int32.ofNat j) (hj : j < 30) (f1 : ¬ live (12, t, j)) (f2 : ¬ live (48, t, j)) (f3 : ¬ live (49, t, j)) : jc_Ct y_mT_push [.inr (some (14, t, 0)), .inr (some q), .inl x] I O live (some (.inr (some (12, t, j))), q_bg (l_add (q_f1 I t j) (q_f1O O t j) (q_f1l live t j) xt (12, t, j)).1 t j x, jc_up (l_add (q_f1 I t j) (q_f1O O t j) (q_f1l live t j) xt (12, t, j)).2.1 (12, t, j) 0 (some q), (l_add (q_f1 I t j) (q_f1O O t j) (q_f1l live t j) xt (12, t, j)).2.2.1, (l_add (q_f1 I t j) (q_f1O O t j) (q_f1l live t j) xt (12, t, j)).2.2.2.1 + 3, (l_add (q_f1 I t j) (q_f1O O t j) (q_f1l live t j) xt (12, t, j)).2.2.2.2 + 26) := by
  have hs : jc_sto "java/lang/Object" (some (12, t, j)) := fun q9 e9 => by cases e9; exact ⟨_, _, rfl, rfl, Or.inr ca_mF_oO⟩
  have hl1 := hl.f1 (t := t) (j := j)
  have hl2 := hl1.add (by omega) hs
  have hm2 : (l_add (q_f1 I t j) (q_f1O O t j) (q_f1l live t j) xt (12, t, j)).2.1 (14, t, 0) 1 = some (15, xt, 0) := by rw [l_add_Oq (by simp) (by simp), q_f1O_t (by simp) (by simp) (by simp)]; exact hm1
  have hd2 : (l_add (q_f1 I t j) (q_f1O O t j) (q_f1l live t j) xt (12, t, j)).1 (14, t, 0) 2 = Int32.ofNat j := by rw [l_add_Iq (by simp) (by simp), q_f1_t (by simp) (by simp) (by simp)]; exact hd
  have hg : (l_add (q_f1 I t j) (q_f1O O t j) (q_f1l live t j) xt (12, t, j)).2.1 (12, t, j) 2 = some (48, t, j) := by rw [l_add_Oq (by simp) (by simp)]; unfold q_f1O; rw [jc_up_k _ _ _ _ _ _ (by decide), jc_cl_t _ _ _ _ _ _ _ (by decide), jc_up_s]
  refine jc_Ct.of (by decide +kernel) (Or.inl ⟨_, rfl⟩) (Nat.le_of_ble_eq_true rfl) ?_
  refine jr_aload_n d_mT_push_0 rfl rfl ?_
  refine jr_geti d_mT_push_1 f_mT_22 rfl ?_
  refine jr_aload_n d_mT_push_4 rfl rfl ?_
  refine jr_getr d_mT_push_5 f_mT_12 rfl rfl ?_
  first | rw [hm1] | rw [hm2] | skip
  refine jv_V0r d_mT_push_8 l_mT_43 k_aL_size ⟨Nat.le_of_ble_eq_true rfl, Nat.le_of_ble_eq_true rfl⟩ rfl rfl (Nat.le_of_ble_eq_true rfl) (ct_aL_size) (by first | decide | exact Nat.zero_le _ | (dsimp only; omega) | (dsimp only; grind) | (omega)) (by first | decide | exact Nat.zero_le _ | (dsimp only; omega) | (dsimp only; grind) | (omega)) ?_
  refine jr_icmp_ne (tgt := 29) d_mT_push_11 (by decide) (fun c11 => ?_) (fun c11 => ?_)
  · skip
    exfalso; exact c11 (by rw [hd, hl.sz])
  · skip
    refine jr_aload_n d_mT_push_14 rfl rfl ?_
    refine jr_getr d_mT_push_15 f_mT_12 rfl rfl ?_
    first | rw [hm1] | rw [hm2] | skip
    refine jr_new (12, t, j) d_mT_push_18 n_mT_41 rfl (f1) (by first | decide | (dsimp only; omega)) (by first | decide | (dsimp only; omega)) ?_
    refine jr_dup d_mT_push_21 ?_
    refine jv_IN0vA d_mT_push_22 l_mT_47 k_mF_init ⟨Nat.le_of_ble_eq_true rfl, Nat.le_of_ble_eq_true rfl⟩ (Nat.le_of_ble_eq_true rfl) (show jc_Ct y_mF_init _ _ _ _ (none, q_f1 I t j, q_f1O O t j, q_f1l live t j, 2, 20) from ct_mF_init (t := t) (j := j) (by simp [*]) (by simp [*])) (fun q9 h9 => Or.inr (Or.inr h9)) (by first | decide | exact Nat.zero_le _ | (dsimp only; omega) | (dsimp only; grind) | (omega)) (by first | decide | exact Nat.zero_le _ | (dsimp only; omega) | (dsimp only; grind) | (omega)) ?_
    refine jv_V1rA d_mT_push_25 l_mT_48 k_aL_add1 ⟨Nat.le_of_ble_eq_true rfl, Nat.le_of_ble_eq_true rfl⟩ rfl rfl (Nat.le_of_ble_eq_true rfl) (ct_aL_add (x := xt) hl1 hs) (fun q9 h9 => l_add_live q9 h9) (by first | decide | exact Nat.zero_le _ | (dsimp only; omega) | (dsimp only; grind) | (omega)) (by first | decide | exact Nat.zero_le _ | (dsimp only; omega) | (dsimp only; grind) | (omega)) ?_
    refine jr_pop d_mT_push_28 ?_
    refine jr_aload_n d_mT_push_29 rfl rfl ?_
    refine jr_getr d_mT_push_30 f_mT_12 rfl rfl ?_
    try simp only [jc_up_s, jc_up_k, jc_up_t, jc_cl_s, jc_cl_t, ne_eq, Nat.reduceEqDiff, not_false_eq_true, Nat.reduceAdd]
    first | rw [hm1] | rw [hm2] | skip
    refine jr_aload_n d_mT_push_33 rfl rfl ?_
    refine jr_geti d_mT_push_34 f_mT_22 rfl ?_
    try simp only [jc_up_s, jc_up_k, jc_up_t, jc_cl_s, jc_cl_t, ne_eq, Nat.reduceEqDiff, not_false_eq_true, Nat.reduceAdd]
    refine jv_V1r d_mT_push_37 l_mT_37 k_aL_get ⟨Nat.le_of_ble_eq_true rfl, Nat.le_of_ble_eq_true rfl⟩ rfl rfl (Nat.le_of_ble_eq_true rfl) (ct_aL_getq hl2 hd2 (k := j) (by omega)) (by first | decide | exact Nat.zero_le _ | (dsimp only; omega) | (dsimp only; grind) | (omega)) (by first | decide | exact Nat.zero_le _ | (dsimp only; omega) | (dsimp only; grind) | (omega)) ?_
    first | rw [hm1] | rw [hm2] | skip
    refine jr_cast d_mT_push_40 c_mT_41 rfl ⟨_, rfl, ca_mF_mF⟩ ?_
    refine jr_astore_n d_mT_push_43 rfl (Nat.le_of_ble_eq_true rfl) ?_
    refine jr_aload_n d_mT_push_44 rfl rfl ?_
    refine jr_dup d_mT_push_45 ?_
    refine jr_geti d_mT_push_46 f_mT_22 rfl ?_
    try simp only [jc_up_s, jc_up_k, jc_up_t, jc_cl_s, jc_cl_t, ne_eq, Nat.reduceEqDiff, not_false_eq_true, Nat.reduceAdd]
    refine jr_iconst (v := 1) d_mT_push_49 (by decide) ?_
    refine jr_iadd d_mT_push_50 ?_
    refine jr_puti d_mT_push_51 f_mT_22 (Or.inl rfl) rfl ?_
    refine jr_aload_n d_mT_push_54 rfl rfl ?_
    refine jr_aload_n d_mT_push_55 rfl rfl ?_
    refine jr_putr d_mT_push_56 f_mT_52 (Or.inl rfl) rfl rfl ?_
    refine jr_aload_n d_mT_push_59 rfl rfl ?_
    refine jr_iload_n d_mT_push_60 rfl rfl ?_
    refine jr_puti d_mT_push_61 f_mT_56 (Or.inl rfl) rfl ?_
    refine jr_aload_n d_mT_push_64 rfl rfl ?_
    refine jr_iconst (v := 0) d_mT_push_65 (by decide) ?_
    refine jr_puti d_mT_push_66 f_mT_57 (Or.inl rfl) rfl ?_
    refine jr_aload_n d_mT_push_69 rfl rfl ?_
    refine jr_iconst (v := 0) d_mT_push_70 (by decide) ?_
    refine jr_puti d_mT_push_71 f_mT_60 (Or.inl rfl) rfl ?_
    refine jr_iconst (v := 0) d_mT_push_74 (by decide) ?_
    refine jr_istore d_mT_push_75 (Nat.le_of_ble_eq_true rfl) ?_
    exact (by have e := lp_mT_push (live := (l_add (q_f1 I t j) (q_f1O O t j) (q_f1l live t j) xt (12, t, j)).2.2.1) (nc := 0 + 1 + 2 + (l_add (q_f1 I t j) (q_f1O O t j) (q_f1l live t j) xt (12, t, j)).2.2.2.1) (ns := 0 + 6 + 20 + (l_add (q_f1 I t j) (q_f1O O t j) (q_f1l live t j) xt (12, t, j)).2.2.2.2) (mc := (l_add (q_f1 I t j) (q_f1O O t j) (q_f1l live t j) xt (12, t, j)).2.2.2.1 + 3) (ms := (l_add (q_f1 I t j) (q_f1O O t j) (q_f1l live t j) xt (12, t, j)).2.2.2.2 + 26) (I := jc_up (jc_up (jc_up (jc_up (l_add (q_f1 I t j) (q_f1O O t j) (q_f1l live t j) xt (12, t, j)).1 (14, t, 0) 2 ((l_add (q_f1 I t j) (q_f1O O t j) (q_f1l live t j) xt (12, t, j)).1 (14, t, 0) 2 + 1)) (12, t, j) 1 x) (12, t, j) 4 0) (12, t, j) 5 0) (O := jc_up (l_add (q_f1 I t j) (q_f1O O t j) (q_f1l live t j) xt (12, t, j)).2.1 (12, t, j) 0 (some q)) (t := t) (j := j) (x := x) (q := q) (by rw [jc_up_k _ _ _ _ _ _ (by decide)]; exact hg) (by first | exact Nat.le_refl _ | omega) (by first | exact Nat.le_refl _ | omega) 8 0 (by omega); rw [jc_zr_0] at e; exact e)
