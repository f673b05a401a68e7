theorem lp_F_begin {I : jc_I} {O : jc_O} {live : jc_L → Prop} {t j : Nat} {o : Option jc_L} (h1 : O (8, t, j) 1 = some (33, t, j)) : ∀ (m : Nat) (i : Int32), 0 ≤ i → i ≤ 8 → (8 : Int32).toInt - i.toInt < (m : Int) → jc_R y_F_begin 17 [some (.inr (some (8, t, j))), some (.inr o), some (.inl i)] [] (jc_zr I (33, t, j) i.toNatClampNeg 0) O live 0 0 (none, jc_zr I (33, t, j) 8 0, O, live, 0, 0) := by
  intro m
  induction m with
  | zero => intro i hi0 h8 hm; exact (jm0 h8 hm).elim
  | succ m ih =>
    intro i hi0 h8 hm
    refine jr_iload_n d_F_begin_17 rfl rfl ?_
    refine jr_bipush (v := 8) d_F_begin_18 (by decide) ?_
    refine jr_icmp_ge (tgt := 36) d_F_begin_20 (by decide) (fun c20 => ?_) (fun c20 => ?_)
    · skip
      exact jr_retX (v := none) d_F_begin_36 (by first | exact Nat.le_refl _ | exact Nat.zero_le _ | (dsimp only; omega)) (by first | exact Nat.le_refl _ | exact Nat.zero_le _ | (dsimp only; omega)) (by first | with_reducible rfl | (dsimp only; (have e9 : i = 8 := by clear ih; grind); subst e9; rfl; done) | (exfalso; clear ih; grind)) (by first | with_reducible rfl | (dsimp only; (have e9 : i = 8 := by clear ih; grind); subst e9; rfl; done) | (exfalso; clear ih; grind)) (by first | with_reducible rfl | (dsimp only; (have e9 : i = 8 := by clear ih; grind); subst e9; rfl; done) | (exfalso; clear ih; grind)) (by first | with_reducible rfl | (dsimp only; (have e9 : i = 8 := by clear ih; grind); subst e9; rfl; done) | (exfalso; clear ih; grind))
    · skip
      refine jr_aload_n d_F_begin_23 rfl rfl ?_
      refine jr_getr d_F_begin_24 f_F_15 rfl rfl ?_
      first | rw [h1] | skip
      refine jr_iload_n d_F_begin_27 rfl rfl ?_
      refine jr_iconst (v := 0) d_F_begin_28 (by decide) ?_
      refine jr_iast d_F_begin_29 rfl rfl rfl (jin (m := 8) (by decide) (by clear ih; grind) (by clear ih; grind)) ?_
      rw [jc_zr_s]
      refine jr_iinc d_F_begin_30 rfl jinc1 ?_
      refine jr_goto (tgt := 17) d_F_begin_33 (by decide) ?_
      exact (by have e := ih (i + 1) (by clear ih; grind) (by clear ih; grind) (jme (by clear ih; grind) hm); rw [jN1 (by clear e; grind) (by clear e; grind)] at e; exact e)
theorem ct_F_begin {I : jc_I} {O : jc_O} {live : jc_L → Prop} {t j : Nat} {o : Option jc_L} (h1 : O (8, t, j) 1 = some (33, t, j)) : jc_Ct y_F_begin [.inr (some (8, t, j)), .inr o] I O live (none, jc_zr (jc_up (jc_up I (8, t, j) 3 0) (8, t, j) 4 0) (33, t, j) 8 0, jc_up O (8, t, j) 2 o, live, 0, 0) := by
  refine jc_Ct.of (by decide +kernel) (rfl) (Nat.le_of_ble_eq_true rfl) ?_
  refine jr_aload_n d_F_begin_0 rfl rfl ?_
  refine jr_aload_n d_F_begin_1 rfl rfl ?_
  refine jr_putr d_F_begin_2 f_F_18 (Or.inl rfl) rfl rfl ?_
  refine jr_aload_n d_F_begin_5 rfl rfl ?_
  refine jr_iconst (v := 0) d_F_begin_6 (by decide) ?_
  refine jr_puti d_F_begin_7 f_F_22 (Or.inl rfl) rfl ?_
  refine jr_aload_n d_F_begin_10 rfl rfl ?_
  refine jr_iconst (v := 0) d_F_begin_11 (by decide) ?_
  refine jr_puti d_F_begin_12 f_F_26 (Or.inl rfl) rfl ?_
  refine jr_iconst (v := 0) d_F_begin_15 (by decide) ?_
  refine jr_istore_n d_F_begin_16 rfl (Nat.le_of_ble_eq_true rfl) ?_
  exact (by have e := lp_F_begin (I := jc_up (jc_up I (8, t, j) 3 0) (8, t, j) 4 0) (O := jc_up O (8, t, j) 2 o) (live := live) (t := t) (j := j) (o := o) (by rw [jc_up_k _ _ _ _ _ _ (by decide)]; exact h1) 9 0 (by decide) (by decide) (by decide); rw [j00, jc_zr_0] at e; exact e)
theorem lp_T_begin {I : jc_I} {O : jc_O} {live : jc_L → Prop} {k : Nat} {x : Int32} (h0 : O (7, k, 0) 0 = some (29, k, 0)) : ∀ (m : Nat) (i : Int32), 0 ≤ i → i ≤ 8 → (8 : Int32).toInt - i.toInt < (m : Int) → jc_R y_T_begin 11 [some (.inr (some (7, k, 0))), some (.inl x), some (.inl i)] [] (jc_zr I (29, k, 0) i.toNatClampNeg 0) O live 0 0 (none, jc_zr I (29, k, 0) 8 0, O, live, 0, 0) := by
  intro m
  induction m with
  | zero => intro i hi0 h8 hm; exact (jm0 h8 hm).elim
  | succ m ih =>
    intro i hi0 h8 hm
    refine jr_iload_n d_T_begin_11 rfl rfl ?_
    refine jr_bipush (v := 8) d_T_begin_12 (by decide) ?_
    refine jr_icmp_ge (tgt := 30) d_T_begin_14 (by decide) (fun c14 => ?_) (fun c14 => ?_)
    · skip
      exact jr_retX (v := none) d_T_begin_30 (by first | exact Nat.le_refl _ | exact Nat.zero_le _ | (dsimp only; omega)) (by first | exact Nat.le_refl _ | exact Nat.zero_le _ | (dsimp only; omega)) (by first | with_reducible rfl | (dsimp only; (have e9 : i = 8 := by clear ih; grind); subst e9; rfl; done) | (exfalso; clear ih; grind)) (by first | with_reducible rfl | (dsimp only; (have e9 : i = 8 := by clear ih; grind); subst e9; rfl; done) | (exfalso; clear ih; grind)) (by first | with_reducible rfl | (dsimp only; (have e9 : i = 8 := by clear ih; grind); subst e9; rfl; done) | (exfalso; clear ih; grind)) (by first | with_reducible rfl | (dsimp only; (have e9 : i = 8 := by clear ih; grind); subst e9; rfl; done) | (exfalso; clear ih; grind))
    · skip
      refine jr_aload_n d_T_begin_17 rfl rfl ?_
      refine jr_getr d_T_begin_18 f_T_9 rfl rfl ?_
      first | rw [h0] | skip
      refine jr_iload_n d_T_begin_21 rfl rfl ?_
      refine jr_iconst (v := 0) d_T_begin_22 (by decide) ?_
      refine jr_iast d_T_begin_23 rfl rfl rfl (jin (m := 8) (by decide) (by clear ih; grind) (by clear ih; grind)) ?_
      rw [jc_zr_s]
      refine jr_iinc d_T_begin_24 rfl jinc1 ?_
      refine jr_goto (tgt := 11) d_T_begin_27 (by decide) ?_
      exact (by have e := ih (i + 1) (by clear ih; grind) (by clear ih; grind) (jme (by clear ih; grind) hm); rw [jN1 (by clear e; grind) (by clear e; grind)] at e; exact e)
theorem ct_T_begin {I : jc_I} {O : jc_O} {live : jc_L → Prop} {k : Nat} {x : Int32} (h0 : O (7, k, 0) 0 = some (29, k, 0)) : jc_Ct y_T_begin [.inr (some (7, k, 0)), .inl x] I O live (none, jc_zr (jc_up (jc_up (jc_up I (7, k, 0) 1 x) (7, k, 0) 2 (-1)) (7, k, 0) 3 0) (29, k, 0) 8 0, O, live, 0, 0) := by
  refine jc_Ct.of (by decide +kernel) (rfl) (Nat.le_of_ble_eq_true rfl) ?_
  refine jr_aload_n d_T_begin_0 rfl rfl ?_
  refine jr_iload_n d_T_begin_1 rfl rfl ?_
  refine jr_puti d_T_begin_2 f_T_15 (Or.inl rfl) rfl ?_
  refine jr_aload_n d_T_begin_5 rfl rfl ?_
  refine jv_V0v d_T_begin_6 l_T_19 k_T_setFree ⟨Nat.le_of_ble_eq_true rfl, Nat.le_of_ble_eq_true rfl⟩ rfl rfl (Nat.le_of_ble_eq_true rfl) (ct_T_setFree) (by grind) (by grind) ?_
  refine jr_iconst (v := 0) d_T_begin_9 (by decide) ?_
  refine jr_istore_n d_T_begin_10 rfl (Nat.le_of_ble_eq_true rfl) ?_
  exact (by have e := lp_T_begin (I := jc_up (jc_up (jc_up I (7, k, 0) 1 x) (7, k, 0) 2 (-1)) (7, k, 0) 3 0) (O := O) (live := live) (k := k) (x := x) h0 9 0 (by decide) (by decide) (by decide); rw [j00, jc_zr_0] at e; exact e)
theorem lp_H_clear {I : jc_I} {O : jc_O} {live : jc_L → Prop}  (h1 : O (3, 0, 0) 1 = some (31, 0, 0)) : ∀ (m : Nat) (i : Int32), 0 ≤ i → i ≤ 4 → (4 : Int32).toInt - i.toInt < (m : Int) → jc_R y_H_clear 7 [some (.inr (some (3, 0, 0))), some (.inl i)] [] (jc_zr I (31, 0, 0) i.toNatClampNeg 0) O live 0 0 (none, jc_zr I (31, 0, 0) 4 0, O, live, 0, 0) := by
  intro m
  induction m with
  | zero => intro i hi0 h8 hm; exact (jm0 h8 hm).elim
  | succ m ih =>
    intro i hi0 h8 hm
    refine jr_iload_n d_H_clear_7 rfl rfl ?_
    refine jr_iconst (v := 4) d_H_clear_8 (by decide) ?_
    refine jr_icmp_ge (tgt := 25) d_H_clear_9 (by decide) (fun c9 => ?_) (fun c9 => ?_)
    · skip
      exact jr_retX (v := none) d_H_clear_25 (by first | exact Nat.le_refl _ | exact Nat.zero_le _ | (dsimp only; omega)) (by first | exact Nat.le_refl _ | exact Nat.zero_le _ | (dsimp only; omega)) (by first | with_reducible rfl | (dsimp only; (have e9 : i = 4 := by clear ih; grind); subst e9; rfl; done) | (exfalso; clear ih; grind)) (by first | with_reducible rfl | (dsimp only; (have e9 : i = 4 := by clear ih; grind); subst e9; rfl; done) | (exfalso; clear ih; grind)) (by first | with_reducible rfl | (dsimp only; (have e9 : i = 4 := by clear ih; grind); subst e9; rfl; done) | (exfalso; clear ih; grind)) (by first | with_reducible rfl | (dsimp only; (have e9 : i = 4 := by clear ih; grind); subst e9; rfl; done) | (exfalso; clear ih; grind))
    · skip
      refine jr_aload_n d_H_clear_12 rfl rfl ?_
      refine jr_getr d_H_clear_13 f_H_17 rfl rfl ?_
      first | rw [h1] | skip
      refine jr_iload_n d_H_clear_16 rfl rfl ?_
      refine jr_iconst (v := 0) d_H_clear_17 (by decide) ?_
      refine jr_iast d_H_clear_18 rfl rfl rfl (jin (m := 4) (by decide) (by clear ih; grind) (by clear ih; grind)) ?_
      rw [jc_zr_s]
      refine jr_iinc d_H_clear_19 rfl jinc1 ?_
      refine jr_goto (tgt := 7) d_H_clear_22 (by decide) ?_
      exact (by have e := ih (i + 1) (by clear ih; grind) (by clear ih; grind) (jme (by clear ih; grind) hm); rw [jN1 (by clear e; grind) (by clear e; grind)] at e; exact e)
theorem ct_H_clear {I : jc_I} {O : jc_O} {live : jc_L → Prop}  (h1 : O (3, 0, 0) 1 = some (31, 0, 0)) : jc_Ct y_H_clear [.inr (some (3, 0, 0))] I O live (none, jc_zr (jc_up I (3, 0, 0) 2 0) (31, 0, 0) 4 0, O, live, 0, 0) := by
  refine jc_Ct.of (by decide +kernel) (rfl) (Nat.le_of_ble_eq_true rfl) ?_
  refine jr_aload_n d_H_clear_0 rfl rfl ?_
  refine jr_iconst (v := 0) d_H_clear_1 (by decide) ?_
  refine jr_puti d_H_clear_2 f_H_21 (Or.inl rfl) rfl ?_
  refine jr_iconst (v := 0) d_H_clear_5 (by decide) ?_
  refine jr_istore_n d_H_clear_6 rfl (Nat.le_of_ble_eq_true rfl) ?_
  exact (by have e := lp_H_clear (I := jc_up I (3, 0, 0) 2 0) (O := O) (live := live) h1 5 0 (by decide) (by decide) (by decide); rw [j00, jc_zr_0] at e; exact e)
theorem j0I : (0 : Int32).toInt = 0 := by decide
theorem j1I : (1 : Int32).toInt = 1 := by decide
def h_free (I : jc_I) (x : Int32) : Nat → jc_I
  | 0 => I
  | n + 1 => if h_free I x n (7, n, 0) 2 = x then jc_up (jc_up (h_free I x n) (7, n, 0) 2 (-1)) (7, n, 0) 3 0 else h_free I x n
theorem h_free_ne (I : jc_I) (x : Int32) (n : Nat) (q : jc_L) (k : Nat) (h : q.1 ≠ 7) : h_free I x n q k = I q k := by
  induction n with
  | zero => rfl
  | succ n ih =>
    unfold h_free
    have hq : q ≠ (7, n, 0) := fun e => h (by rw [e])
    split
    · rw [jc_up_q _ _ _ _ _ _ hq, jc_up_q _ _ _ _ _ _ hq, ih]
    · exact ih
theorem jsub1 {i : Int32} (h : 1 ≤ i) : (i - 1).toInt = i.toInt - 1 := by
  have h0 := jle.mp h
  have h5 : (1 : Int32).toInt = 1 := by decide
  have h3 := Int32.toInt_le i
  have h4 : Int32.maxValue.toInt = 2147483647 := by decide
  rw [h5] at h0
  rw [Int32.toInt_sub, h5]
  rw [Int.bmod_eq_of_le] <;> omega
theorem jsubN {i : Int32} (h : 1 ≤ i) : ((i - 1).toNatClampNeg : Int) = i.toInt - 1 := by
  have h1 := jsub1 h
  have h0 := jle.mp h
  have h5 : (1 : Int32).toInt = 1 := by decide
  show (((i - 1).toInt.toNat : Nat) : Int) = _
  omega
theorem jsubN1 {i : Int32} (h : 1 ≤ i) (h2 : i < 2147483647) : (i + 1 - 1).toNatClampNeg = (i - 1).toNatClampNeg + 1 := by
  have h1 := jsubN h
  have h3 : i + 1 - 1 = i := by grind
  have h4 := jNI (i := i) (by grind)
  rw [h3]
  omega
theorem lp_H_freeAllHeldBy {I : jc_I} {O : jc_O} {live : jc_L → Prop} {x : Int32} (h0 : O (3, 0, 0) 0 = some (30, 0, 0)) (hn : I (3, 0, 0) 2 ≤ 2000) (hp : 0 ≤ I (3, 0, 0) 2) (hT : ∀ k : Nat, (k : Int) < (I (3, 0, 0) 2).toInt → O (30, 0, 0) k = some (7, k, 0)) : ∀ (m : Nat) (i : Int32) (u : Option jc_V), 1 ≤ i → i ≤ I (3, 0, 0) 2 + 1 → (I (3, 0, 0) 2).toInt - i.toInt + 1 < (m : Int) → jc_R y_H_freeAllHeldBy 2 [some (.inr (some (3, 0, 0))), some (.inl x), some (.inl i), u] [] (h_free I x (i - 1).toNatClampNeg) O live 0 0 (none, h_free I x (I (3, 0, 0) 2).toNatClampNeg, O, live, 0, 0) := by
  intro m
  induction m with
  | zero => intro i u h1 h8 hm; have h9 := jI1 (i := I (3, 0, 0) 2) (by grind); rw [jle] at h8; omega
  | succ m ih =>
    intro i u h1 h8 hm
    refine jr_iload_n d_H_freeAllHeldBy_2 rfl rfl ?_
    refine jr_aload_n d_H_freeAllHeldBy_3 rfl rfl ?_
    refine jr_geti d_H_freeAllHeldBy_4 f_H_21 rfl ?_
    rw [h_free_ne _ _ _ _ _ (by decide)]
    refine jr_icmp_gt (tgt := 38) d_H_freeAllHeldBy_7 (by decide) (fun c7 => ?_) (fun c7 => ?_)
    · skip
      exact jr_retX (v := none) d_H_freeAllHeldBy_38 (by first | exact Nat.le_refl _ | exact Nat.zero_le _ | (dsimp only; omega)) (by first | exact Nat.le_refl _ | exact Nat.zero_le _ | (dsimp only; omega)) (by first | with_reducible rfl | (dsimp only; (have e8 : i - 1 = I (3, 0, 0) 2 := by clear ih; grind); rw [e8]; done) | (exfalso; clear ih; grind)) (by first | with_reducible rfl | (dsimp only; (have e8 : i - 1 = I (3, 0, 0) 2 := by clear ih; grind); rw [e8]; done) | (exfalso; clear ih; grind)) (by first | with_reducible rfl | (dsimp only; (have e8 : i - 1 = I (3, 0, 0) 2 := by clear ih; grind); rw [e8]; done) | (exfalso; clear ih; grind)) (by first | with_reducible rfl | (dsimp only; (have e8 : i - 1 = I (3, 0, 0) 2 := by clear ih; grind); rw [e8]; done) | (exfalso; clear ih; grind))
    · skip
      refine jr_aload_n d_H_freeAllHeldBy_10 rfl rfl ?_
      refine jr_iload_n d_H_freeAllHeldBy_11 rfl rfl ?_
      refine jv_V1r d_H_freeAllHeldBy_12 l_H_38 k_H_find ⟨Nat.le_of_ble_eq_true rfl, Nat.le_of_ble_eq_true rfl⟩ rfl rfl (Nat.le_of_ble_eq_true rfl) (ct_H_find h0 (by rw [h_free_ne _ _ _ _ _ (by decide)]; exact hn)) (by clear ih; grind) (by clear ih; grind) ?_
      rw [h_free_ne _ _ _ _ _ (by decide), if_pos ⟨by clear ih; grind, by clear ih; grind⟩, hT _ (by have := jsubN (i := i) h1; have := jle.mp (Int32.not_lt.mp c7); omega)]
      refine jr_astore_n d_H_freeAllHeldBy_15 rfl (Nat.le_of_ble_eq_true rfl) ?_
      refine jr_aload_n d_H_freeAllHeldBy_16 rfl rfl ?_
      refine jr_ifnull (tgt := 32) d_H_freeAllHeldBy_17 (by decide) (fun c17 => by cases c17) (fun q17 c17 => ?_)
      refine jr_aload_n d_H_freeAllHeldBy_20 rfl rfl ?_
      refine jr_iload_n d_H_freeAllHeldBy_21 rfl rfl ?_
      refine jv_V1r d_H_freeAllHeldBy_22 l_H_42 k_T_isHeldBy ⟨Nat.le_of_ble_eq_true rfl, Nat.le_of_ble_eq_true rfl⟩ rfl rfl (Nat.le_of_ble_eq_true rfl) (ct_T_isHeldBy) (by clear ih; grind) (by clear ih; grind) ?_
      refine jr_if_eq (tgt := 32) d_H_freeAllHeldBy_25 (by decide) (fun c25 => ?_) (fun c25 => ?_)
      · skip
        refine jr_iinc d_H_freeAllHeldBy_32 rfl jinc1 ?_
        refine jr_goto (tgt := 2) d_H_freeAllHeldBy_35 (by decide) ?_
        exact (by have e := ih (i + 1) (some (.inr (some (7, (i - 1).toNatClampNeg, 0)))) (by clear ih; grind) (by clear ih; grind) (by rw [jI1 (by clear ih; grind)]; omega); rw [jsubN1 h1 (by clear ih e; grind), h_free, if_neg (by clear ih e; grind)] at e; exact e)
      · skip
        refine jr_aload_n d_H_freeAllHeldBy_28 rfl rfl ?_
        refine jv_V0v d_H_freeAllHeldBy_29 l_H_46 k_T_setFree ⟨Nat.le_of_ble_eq_true rfl, Nat.le_of_ble_eq_true rfl⟩ rfl rfl (Nat.le_of_ble_eq_true rfl) (ct_T_setFree) (by clear ih; grind) (by clear ih; grind) ?_
        skip
        refine jr_iinc d_H_freeAllHeldBy_32 rfl jinc1 ?_
        refine jr_goto (tgt := 2) d_H_freeAllHeldBy_35 (by decide) ?_
        exact (by have e := ih (i + 1) (some (.inr (some (7, (i - 1).toNatClampNeg, 0)))) (by clear ih; grind) (by clear ih; grind) (by rw [jI1 (by clear ih; grind)]; omega); rw [jsubN1 h1 (by clear ih e; grind), h_free, if_pos (by clear ih e; grind)] at e; exact e)
theorem ct_H_freeAllHeldBy {I : jc_I} {O : jc_O} {live : jc_L → Prop} {x : Int32} (h0 : O (3, 0, 0) 0 = some (30, 0, 0)) (hn : I (3, 0, 0) 2 ≤ 2000) (hp : 0 ≤ I (3, 0, 0) 2) (hT : ∀ k : Nat, (k : Int) < (I (3, 0, 0) 2).toInt → O (30, 0, 0) k = some (7, k, 0)) : jc_Ct y_H_freeAllHeldBy [.inr (some (3, 0, 0)), .inl x] I O live (none, h_free I x (I (3, 0, 0) 2).toNatClampNeg, O, live, 0, 0) := by
  refine jc_Ct.of (by decide +kernel) (rfl) (Nat.le_of_ble_eq_true rfl) ?_
  refine jr_iconst (v := 1) d_H_freeAllHeldBy_0 (by decide) ?_
  refine jr_istore_n d_H_freeAllHeldBy_1 rfl (Nat.le_of_ble_eq_true rfl) ?_
  exact (by have e := lp_H_freeAllHeldBy (live := live) (x := x) h0 hn hp hT ((I (3, 0, 0) 2).toInt.toNat + 1) 1 none (by decide) (by grind) (by have h9 := jle.mp hp; rw [j0I] at h9; rw [j1I]; omega); exact e)
