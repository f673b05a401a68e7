/-! frames and things as functions of the heap -/
def f_pk (I : jc_I) (t j : Nat) (k : Int32) : Int32 := if 0 ≤ k ∧ k < I (8, t, j) 3 then I (32, t, j) (I (8, t, j) 3 - 1 - k).toNatClampNeg else 0
def f_tp (I : jc_I) (t j : Nat) : Int32 := if 0 < I (8, t, j) 3 then I (32, t, j) (I (8, t, j) 3 - 1).toNatClampNeg else 0
def f_pop (I : jc_I) (t j : Nat) : jc_I := jc_up I (8, t, j) 3 (if I (8, t, j) 3 - 1 < 0 then 0 else I (8, t, j) 3 - 1)
def f_psh (I : jc_I) (t j : Nat) (x : Int32) : jc_I := if 0 ≤ I (8, t, j) 3 ∧ I (8, t, j) 3 < 12 then jc_up (jc_up I (32, t, j) (I (8, t, j) 3).toNatClampNeg x) (8, t, j) 3 (I (8, t, j) 3 + 1) else I
def f_on (I : jc_I) (t j : Nat) : jc_I := jc_up I (8, t, j) 4 (I (8, t, j) 4 + 1)
def f_la (I : jc_I) (t j c : Nat) (i : Int32) : Int32 := if 0 ≤ i ∧ i < I (6, c, 0) 7 then I (33, t, j) i.toNatClampNeg else 0
def f_sl (I : jc_I) (t j : Nat) (i x : Int32) : jc_I := if 0 ≤ i ∧ i < 8 then jc_up I (33, t, j) i.toNatClampNeg x else I
def f_bg (I : jc_I) (t j : Nat) : jc_I := jc_zr (jc_up (jc_up I (8, t, j) 3 0) (8, t, j) 4 0) (33, t, j) 8 0
def h_fd (I : jc_I) (x : Int32) : Option jc_L := if 1 ≤ x ∧ x ≤ I (3, 0, 0) 2 then some (7, (x - 1).toNatClampNeg, 0) else none
theorem h_fd_some {I : jc_I} {x : Int32} {q : jc_L} (h : h_fd I x = some q) : (1 ≤ x ∧ x ≤ I (3, 0, 0) 2) ∧ q = (7, (x - 1).toNatClampNeg, 0) := by
  unfold h_fd at h
  split at h
  · rename_i hx
    exact ⟨hx, (Option.some.inj h).symm⟩
  · cases h
theorem h_fd_none {I : jc_I} {x : Int32} (h : h_fd I x = none) : ¬ (1 ≤ x ∧ x ≤ I (3, 0, 0) 2) := by
  unfold h_fd at h
  split at h
  · cases h
  · assumption
def h_ga (I : jc_I) (i : Int32) : Int32 := if 0 ≤ i ∧ i < 4 then I (31, 0, 0) i.toNatClampNeg else 0
def h_sg (I : jc_I) (i x : Int32) : jc_I := if 0 ≤ i ∧ i < 4 then jc_up I (31, 0, 0) i.toNatClampNeg x else I
def t_fd (I : jc_I) (k : Nat) (i : Int32) : Int32 := if 0 ≤ i ∧ i < 8 then I (29, k, 0) i.toNatClampNeg else 0
def t_sf (I : jc_I) (k : Nat) (i x : Int32) : jc_I := if 0 ≤ i ∧ i < 8 then jc_up I (29, k, 0) i.toNatClampNeg x else I
def t_en (I : jc_I) (k : Nat) (x : Int32) : jc_I := jc_up (jc_up I (7, k, 0) 2 x) (7, k, 0) 3 (I (7, k, 0) 3 + 1)
def t_lv (I : jc_I) (k : Nat) : jc_I := if I (7, k, 0) 3 - 1 ≤ 0 then jc_up (jc_up (jc_up I (7, k, 0) 3 (I (7, k, 0) 3 - 1)) (7, k, 0) 2 (-1)) (7, k, 0) 3 0 else jc_up I (7, k, 0) 3 (I (7, k, 0) 3 - 1)
theorem f_pop_t {I : jc_I} {t j a : Nat} {u : Nat × Nat} {k : Nat} (h : a ≠ 8) : f_pop I t j (a, u) k = I (a, u) k := jc_up_t _ _ _ _ _ _ _ _ h
theorem f_psh_t {I : jc_I} {t j a : Nat} {x : Int32} {u : Nat × Nat} {k : Nat} (h : a ≠ 8) (h2 : a ≠ 32) : f_psh I t j x (a, u) k = I (a, u) k := by
  unfold f_psh
  split
  · rw [jc_up_t _ _ _ _ _ _ _ _ h, jc_up_t _ _ _ _ _ _ _ _ h2]
  · rfl
theorem f_on_t {I : jc_I} {t j a : Nat} {u : Nat × Nat} {k : Nat} (h : a ≠ 8) : f_on I t j (a, u) k = I (a, u) k := jc_up_t _ _ _ _ _ _ _ _ h
def jw_d (I : jc_I) (t j : Nat) : Prop := 0 ≤ I (8, t, j) 3 ∧ I (8, t, j) 3 ≤ 12
theorem jw_d.pop {I : jc_I} {t j : Nat} (h : jw_d I t j) : jw_d (f_pop I t j) t j := by
  unfold jw_d f_pop at *
  rw [jc_up_s]
  grind
theorem jw_d.psh {I : jc_I} {t j : Nat} {x : Int32} (h : jw_d I t j) : jw_d (f_psh I t j x) t j := by
  unfold jw_d f_psh at *
  split
  · rw [jc_up_s]
    grind
  · exact h
theorem jw_d.on {I : jc_I} {t j : Nat} (h : jw_d I t j) : jw_d (f_on I t j) t j := by
  unfold jw_d f_on at *
  rw [jc_up_k _ _ _ _ _ _ (by decide)]
  exact h
/-- the heap's things -/
def jw_H (I : jc_I) (O : jc_O) : Prop := O (3, 0, 0) 0 = some (30, 0, 0) ∧ O (3, 0, 0) 1 = some (31, 0, 0) ∧ 0 ≤ I (3, 0, 0) 2 ∧ I (3, 0, 0) 2 ≤ 2000 ∧ ∀ k : Nat, (k : Int) < (I (3, 0, 0) 2).toInt → O (30, 0, 0) k = some (7, k, 0) ∧ O (7, k, 0) 0 = some (29, k, 0)
theorem jw_H.to {I J : jc_I} {O : jc_O} (h : jw_H I O) (e : J (3, 0, 0) 2 = I (3, 0, 0) 2) : jw_H J O := by
  unfold jw_H at *
  rw [e]
  exact h
theorem jw_H.at {I : jc_I} {O : jc_O} (h : jw_H I O) {x : Int32} (hx : 1 ≤ x ∧ x ≤ I (3, 0, 0) 2) : O (30, 0, 0) (x - 1).toNatClampNeg = some (7, (x - 1).toNatClampNeg, 0) ∧ O (7, (x - 1).toNatClampNeg, 0) 0 = some (29, (x - 1).toNatClampNeg, 0) := h.2.2.2.2 _ (by rw [jsubN hx.1]; have := jle.mp hx.2; omega)
theorem ct_H_findT {I : jc_I} {O : jc_O} {live : jc_L → Prop} {x : Int32} (hH : jw_H I O) : jc_Ct y_H_find [.inr (some (3, 0, 0)), .inl x] I O live (some (.inr (h_fd I x)), I, O, live, 0, 0) := by
  have h := ct_H_find (live := live) (x := x) hH.1 hH.2.2.2.1
  unfold h_fd
  by_cases hx : 1 ≤ x ∧ x ≤ I (3, 0, 0) 2
  · rw [if_pos hx] at h ⊢
    rw [(hH.at hx).1] at h
    exact h
  · rw [if_neg hx] at h ⊢
    exact h
def jw_M (O : jc_O) : Prop := O (4, 0, 0) 0 = some (1, 0, 0) ∧ O (4, 0, 0) 1 = some (2, 0, 0) ∧ O (4, 0, 0) 2 = some (3, 0, 0) ∧ O (4, 0, 0) 3 = some (35, 0, 0)
/-- a frame's own arrays -/
def jw_f (O : jc_O) (t j : Nat) : Prop := O (8, t, j) 0 = some (32, t, j) ∧ O (8, t, j) 1 = some (33, t, j)
/-- the frame on top -/
def jw_top (I : jc_I) (O : jc_O) (t j : Nat) : Prop := O (9, t, 0) 1 = some (34, t, 0) ∧ 1 ≤ I (9, t, 0) 2 ∧ I (9, t, 0) 2 ≤ 30 ∧ (I (9, t, 0) 2 - 1).toNatClampNeg = j ∧ O (34, t, 0) j = some (8, t, j)
theorem ct_S_topF {I : jc_I} {O : jc_O} {live : jc_L → Prop} {t j : Nat} (h : jw_top I O t j) : jc_Ct y_S_top [.inr (some (9, t, 0))] I O live (some (.inr (some (8, t, j))), I, O, live, 0, 0) := by
  obtain ⟨h1, h2, h3, h4, h5⟩ := h
  have e := ct_S_top (live := live) (I := I) h1
  rw [if_pos ⟨h2, h3⟩, h4, h5] at e
  exact e
theorem ct_S_topN {I : jc_I} {O : jc_O} {live : jc_L → Prop} {t : Nat} (h1 : O (9, t, 0) 1 = some (34, t, 0)) (h : I (9, t, 0) 2 = 0) : jc_Ct y_S_top [.inr (some (9, t, 0))] I O live (some (.inr none), I, O, live, 0, 0) := by
  have e := ct_S_top (live := live) (I := I) h1
  rw [if_neg (by rw [h]; decide)] at e
  exact e
theorem f_bg_t {I : jc_I} {t j a : Nat} {u : Nat × Nat} {k : Nat} (h : a ≠ 8) (h2 : a ≠ 33) : f_bg I t j (a, u) k = I (a, u) k := by
  unfold f_bg jc_zr
  rw [if_neg (fun e => h2 (congrArg Prod.fst e.1)), jc_up_t _ _ _ _ _ _ _ _ h, jc_up_t _ _ _ _ _ _ _ _ h]
theorem ct_S_beginFrame {I : jc_I} {O : jc_O} {live : jc_L → Prop} {t : Nat} {q : jc_L} (h1 : O (9, t, 0) 1 = some (34, t, 0)) (hp : 0 ≤ I (9, t, 0) 2) (hf : I (9, t, 0) 2 < 30) (hj : O (34, t, 0) (I (9, t, 0) 2).toNatClampNeg = some (8, t, (I (9, t, 0) 2).toNatClampNeg)) (hl : O (8, t, (I (9, t, 0) 2).toNatClampNeg) 1 = some (33, t, (I (9, t, 0) 2).toNatClampNeg)) : jc_Ct y_S_beginFrame [.inr (some (9, t, 0)), .inr (some q)] I O live (some (.inr (some (8, t, (I (9, t, 0) 2).toNatClampNeg))), jc_up (f_bg I t (I (9, t, 0) 2).toNatClampNeg) (9, t, 0) 2 (I (9, t, 0) 2 + 1), jc_up O (8, t, (I (9, t, 0) 2).toNatClampNeg) 2 (some q), live, 0, 0) := by
  refine jc_Ct.of (by decide +kernel) (Or.inl ⟨_, rfl⟩) (Nat.le_of_ble_eq_true rfl) ?_
  refine jr_aload_n d_S_beginFrame_0 rfl rfl ?_
  refine jr_geti d_S_beginFrame_1 f_S_22 rfl ?_
  refine jr_if_lt (tgt := 16) d_S_beginFrame_4 (by decide) (fun c4 => ?_) (fun c4 => ?_)
  · skip
    exact absurd hp (by grind)
  · skip
    refine jr_aload_n d_S_beginFrame_7 rfl rfl ?_
    refine jr_geti d_S_beginFrame_8 f_S_22 rfl ?_
    refine jr_bipush (v := 30) d_S_beginFrame_11 (by decide) ?_
    refine jr_icmp_lt (tgt := 18) d_S_beginFrame_13 (by decide) (fun c13 => ?_) (fun c13 => ?_)
    · skip
      refine jr_aload_n d_S_beginFrame_18 rfl rfl ?_
      refine jr_getr d_S_beginFrame_19 f_S_11 rfl rfl ?_
      first | rw [h1] | rw [hj] | skip
      refine jr_aload_n d_S_beginFrame_22 rfl rfl ?_
      refine jr_geti d_S_beginFrame_23 f_S_22 rfl ?_
      refine jr_aald d_S_beginFrame_26 rfl rfl rfl (jin (m := 30) (by decide) (by grind) (by grind)) ?_
      first | rw [h1] | rw [hj] | skip
      refine jr_astore_n d_S_beginFrame_27 rfl (Nat.le_of_ble_eq_true rfl) ?_
      refine jr_aload_n d_S_beginFrame_28 rfl rfl ?_
      refine jr_aload_n d_S_beginFrame_29 rfl rfl ?_
      refine jv_V1v d_S_beginFrame_30 l_S_42 k_F_begin ⟨Nat.le_of_ble_eq_true rfl, Nat.le_of_ble_eq_true rfl⟩ rfl rfl (Nat.le_of_ble_eq_true rfl) (show jc_Ct y_F_begin _ _ _ _ (none, f_bg _ _ _, _, _, 0, 0) from ct_F_begin (j := (I (9, t, 0) 2).toNatClampNeg) hl) (by first | decide | (dsimp only; omega) | (dsimp only; grind)) (by first | decide | (dsimp only; omega) | (dsimp only; grind)) ?_
      refine jr_aload_n d_S_beginFrame_33 rfl rfl ?_
      refine jr_dup d_S_beginFrame_34 ?_
      refine jr_geti d_S_beginFrame_35 f_S_22 rfl ?_
      try rw [f_bg_t (by decide) (by decide)]
      refine jr_iconst (v := 1) d_S_beginFrame_38 (by decide) ?_
      refine jr_iadd d_S_beginFrame_39 ?_
      refine jr_puti d_S_beginFrame_40 f_S_22 (Or.inl rfl) rfl ?_
      refine jr_aload_n d_S_beginFrame_43 rfl rfl ?_
      exact jr_retX (v := some _) d_S_beginFrame_44 (by first | exact Nat.le_refl _ | exact Nat.zero_le _ | (dsimp only; omega)) (by first | exact Nat.le_refl _ | exact Nat.zero_le _ | (dsimp only; omega)) (by first | with_reducible rfl | (dsimp only; rfl; done) | (exfalso; grind)) (by first | with_reducible rfl | (dsimp only; rfl; done) | (exfalso; grind)) (by first | with_reducible rfl | (dsimp only; rfl; done) | (exfalso; grind)) (by first | with_reducible rfl | (dsimp only; rfl; done) | (exfalso; grind))
    · skip
      exact absurd hf (by grind)
/-- what Strand.begin leaves -/
def s_bg (I : jc_I) (t : Nat) : jc_I := jc_up (f_bg (jc_up (jc_up (jc_up (jc_up (jc_up I (9, t, 0) 2 0) (9, t, 0) 3 0) (9, t, 0) 4 0) (9, t, 0) 5 0) (9, t, 0) 6 0) t 0) (9, t, 0) 2 1
theorem ct_S_begin {I : jc_I} {O : jc_O} {live : jc_L → Prop} {t : Nat} {q : jc_L} (h1 : O (9, t, 0) 1 = some (34, t, 0)) (hj : O (34, t, 0) 0 = some (8, t, 0)) (hl : O (8, t, 0) 1 = some (33, t, 0)) : jc_Ct y_S_begin [.inr (some (9, t, 0)), .inr (some q)] I O live (none, s_bg I t, jc_up O (8, t, 0) 2 (some q), live, 0, 0) := by
  refine jc_Ct.of (by decide +kernel) (rfl) (Nat.le_of_ble_eq_true rfl) ?_
  refine jr_aload_n d_S_begin_0 rfl rfl ?_
  refine jr_iconst (v := 0) d_S_begin_1 (by decide) ?_
  refine jr_puti d_S_begin_2 f_S_22 (Or.inl rfl) rfl ?_
  refine jr_aload_n d_S_begin_5 rfl rfl ?_
  refine jr_iconst (v := 0) d_S_begin_6 (by decide) ?_
  refine jr_puti d_S_begin_7 f_S_25 (Or.inl rfl) rfl ?_
  refine jr_aload_n d_S_begin_10 rfl rfl ?_
  refine jr_iconst (v := 0) d_S_begin_11 (by decide) ?_
  refine jr_puti d_S_begin_12 f_S_28 (Or.inl rfl) rfl ?_
  refine jr_aload_n d_S_begin_15 rfl rfl ?_
  refine jr_iconst (v := 0) d_S_begin_16 (by decide) ?_
  refine jr_puti d_S_begin_17 f_S_31 (Or.inl rfl) rfl ?_
  refine jr_aload_n d_S_begin_20 rfl rfl ?_
  refine jr_iconst (v := 0) d_S_begin_21 (by decide) ?_
  refine jr_putz d_S_begin_22 f_S_34 (Or.inl rfl) rfl (by grind) ?_
  refine jr_aload_n d_S_begin_25 rfl rfl ?_
  refine jr_aload_n d_S_begin_26 rfl rfl ?_
  refine jv_V1r d_S_begin_27 l_S_38 k_S_beginFrame ⟨Nat.le_of_ble_eq_true rfl, Nat.le_of_ble_eq_true rfl⟩ rfl rfl (Nat.le_of_ble_eq_true rfl) ((by have e := ct_S_beginFrame (live := live) (I := jc_up (jc_up (jc_up (jc_up (jc_up I (9, t, 0) 2 0) (9, t, 0) 3 0) (9, t, 0) 4 0) (9, t, 0) 5 0) (9, t, 0) 6 0) (t := t) (q := q) h1 (by simp only [jc_up_s, jc_up_k, ne_eq, Nat.reduceEqDiff, not_false_eq_true]; decide) (by simp only [jc_up_s, jc_up_k, ne_eq, Nat.reduceEqDiff, not_false_eq_true]; decide) (by simp only [jc_up_s, jc_up_k, ne_eq, Nat.reduceEqDiff, not_false_eq_true, j00]; exact hj) (by simp only [jc_up_s, jc_up_k, ne_eq, Nat.reduceEqDiff, not_false_eq_true, j00]; exact hl); simp only [jc_up_s, jc_up_k, ne_eq, Nat.reduceEqDiff, not_false_eq_true, j00] at e; exact e)) (by first | decide | (dsimp only; omega) | (dsimp only; grind)) (by first | decide | (dsimp only; omega) | (dsimp only; grind)) ?_
  refine jr_pop d_S_begin_30 ?_
  exact jr_retX (v := none) d_S_begin_31 (by first | exact Nat.le_refl _ | exact Nat.zero_le _ | (dsimp only; omega)) (by first | exact Nat.le_refl _ | exact Nat.zero_le _ | (dsimp only; omega)) (by first | with_reducible rfl | (dsimp only; (unfold s_bg; first | rfl | (congr 1)); done) | (exfalso; grind)) (by first | with_reducible rfl | (dsimp only; (unfold s_bg; first | rfl | (congr 1)); done) | (exfalso; grind)) (by first | with_reducible rfl | (dsimp only; (unfold s_bg; first | rfl | (congr 1)); done) | (exfalso; grind)) (by first | with_reducible rfl | (dsimp only; (unfold s_bg; first | rfl | (congr 1)); done) | (exfalso; grind))
theorem ct_S_tell {I : jc_I} {O : jc_O} {live : jc_L → Prop} {t j c : Nat} {w : Int32} (hT : jw_top I O t j) (hc : O (8, t, j) 2 = some (6, c, 0)) : jc_Ct y_S_tell [.inr (some (9, t, 0)), .inl w] I O live (some (.inl (if w = 0 then I (9, t, 0) 3 else if w = 1 then I (9, t, 0) 2 else if w = 2 then I (9, t, 0) 5 else if w = 3 then I (6, c, 0) 0 else if w = 4 then I (8, t, j) 4 else if w = 5 then I (8, t, j) 3 else -14)), I, O, live, 0, 0) := by
  refine jc_Ct.of (by decide +kernel) (Or.inl rfl) (Nat.le_of_ble_eq_true rfl) ?_
  refine jr_aload_n d_S_tell_0 rfl rfl ?_
  refine jv_V0r d_S_tell_1 l_S_52 k_S_top ⟨Nat.le_of_ble_eq_true rfl, Nat.le_of_ble_eq_true rfl⟩ rfl rfl (Nat.le_of_ble_eq_true rfl) (ct_S_topF hT) (by first | decide | (dsimp only; omega) | (dsimp only; grind)) (by first | decide | (dsimp only; omega) | (dsimp only; grind)) ?_
  first | rw [hc] | skip
  refine jr_astore_n d_S_tell_4 rfl (Nat.le_of_ble_eq_true rfl) ?_
  refine jr_iload_n d_S_tell_5 rfl rfl ?_
  refine jr_name (fun x6 e6 => ?_)
  by_cases g6_0 : x6 = 0
  · refine jr_tableIn (tgt := 44) d_S_tell_6 (by rcases g6_0 with rfl <;> decide) (by rcases g6_0 with rfl <;> decide) (by rcases g6_0 with rfl <;> rfl) (by decide) ?_
    refine jr_aload_n d_S_tell_44 rfl rfl ?_
    refine jr_geti d_S_tell_45 f_S_25 rfl ?_
    refine jr_goto (tgt := 122) d_S_tell_48 (by decide) ?_
    exact jr_retX (v := some _) d_S_tell_122 (by first | exact Nat.le_refl _ | exact Nat.zero_le _ | (dsimp only; omega)) (by first | exact Nat.le_refl _ | exact Nat.zero_le _ | (dsimp only; omega)) (by first | with_reducible rfl | (dsimp only; (subst e6; (repeat (first | rw [if_pos (by grind)] | rw [if_neg (by grind)]))); done) | (exfalso; grind)) (by first | with_reducible rfl | (dsimp only; (subst e6; (repeat (first | rw [if_pos (by grind)] | rw [if_neg (by grind)]))); done) | (exfalso; grind)) (by first | with_reducible rfl | (dsimp only; (subst e6; (repeat (first | rw [if_pos (by grind)] | rw [if_neg (by grind)]))); done) | (exfalso; grind)) (by first | with_reducible rfl | (dsimp only; (subst e6; (repeat (first | rw [if_pos (by grind)] | rw [if_neg (by grind)]))); done) | (exfalso; grind))
  · skip
    by_cases g6_1 : x6 = 1
    · refine jr_tableIn (tgt := 51) d_S_tell_6 (by rcases g6_1 with rfl <;> decide) (by rcases g6_1 with rfl <;> decide) (by rcases g6_1 with rfl <;> rfl) (by decide) ?_
      refine jr_aload_n d_S_tell_51 rfl rfl ?_
      refine jr_geti d_S_tell_52 f_S_22 rfl ?_
      refine jr_goto (tgt := 122) d_S_tell_55 (by decide) ?_
      exact jr_retX (v := some _) d_S_tell_122 (by first | exact Nat.le_refl _ | exact Nat.zero_le _ | (dsimp only; omega)) (by first | exact Nat.le_refl _ | exact Nat.zero_le _ | (dsimp only; omega)) (by first | with_reducible rfl | (dsimp only; (subst e6; (repeat (first | rw [if_pos (by grind)] | rw [if_neg (by grind)]))); done) | (exfalso; grind)) (by first | with_reducible rfl | (dsimp only; (subst e6; (repeat (first | rw [if_pos (by grind)] | rw [if_neg (by grind)]))); done) | (exfalso; grind)) (by first | with_reducible rfl | (dsimp only; (subst e6; (repeat (first | rw [if_pos (by grind)] | rw [if_neg (by grind)]))); done) | (exfalso; grind)) (by first | with_reducible rfl | (dsimp only; (subst e6; (repeat (first | rw [if_pos (by grind)] | rw [if_neg (by grind)]))); done) | (exfalso; grind))
    · skip
      by_cases g6_2 : x6 = 2
      · refine jr_tableIn (tgt := 58) d_S_tell_6 (by rcases g6_2 with rfl <;> decide) (by rcases g6_2 with rfl <;> decide) (by rcases g6_2 with rfl <;> rfl) (by decide) ?_
        refine jr_aload_n d_S_tell_58 rfl rfl ?_
        refine jr_geti d_S_tell_59 f_S_31 rfl ?_
        refine jr_goto (tgt := 122) d_S_tell_62 (by decide) ?_
        exact jr_retX (v := some _) d_S_tell_122 (by first | exact Nat.le_refl _ | exact Nat.zero_le _ | (dsimp only; omega)) (by first | exact Nat.le_refl _ | exact Nat.zero_le _ | (dsimp only; omega)) (by first | with_reducible rfl | (dsimp only; (subst e6; (repeat (first | rw [if_pos (by grind)] | rw [if_neg (by grind)]))); done) | (exfalso; grind)) (by first | with_reducible rfl | (dsimp only; (subst e6; (repeat (first | rw [if_pos (by grind)] | rw [if_neg (by grind)]))); done) | (exfalso; grind)) (by first | with_reducible rfl | (dsimp only; (subst e6; (repeat (first | rw [if_pos (by grind)] | rw [if_neg (by grind)]))); done) | (exfalso; grind)) (by first | with_reducible rfl | (dsimp only; (subst e6; (repeat (first | rw [if_pos (by grind)] | rw [if_neg (by grind)]))); done) | (exfalso; grind))
      · skip
        by_cases g6_3 : x6 = 3
        · refine jr_tableIn (tgt := 65) d_S_tell_6 (by rcases g6_3 with rfl <;> decide) (by rcases g6_3 with rfl <;> decide) (by rcases g6_3 with rfl <;> rfl) (by decide) ?_
          refine jr_aload_n d_S_tell_65 rfl rfl ?_
          refine jr_ifnull (tgt := 76) d_S_tell_66 (by decide) (fun c66 => by cases c66) (fun q66 c66 => ?_)
          refine jr_aload_n d_S_tell_69 rfl rfl ?_
          refine jv_V0r d_S_tell_70 l_S_56 k_F_ownCode ⟨Nat.le_of_ble_eq_true rfl, Nat.le_of_ble_eq_true rfl⟩ rfl rfl (Nat.le_of_ble_eq_true rfl) (ct_F_ownCode) (by first | decide | (dsimp only; omega) | (dsimp only; grind)) (by first | decide | (dsimp only; omega) | (dsimp only; grind)) ?_
          first | rw [hc] | skip
          refine jr_ifnonnull (tgt := 80) d_S_tell_73 (by decide) (fun q73 c73 => ?_) (fun c73 => by cases c73)
          refine jr_aload_n d_S_tell_80 rfl rfl ?_
          refine jv_V0r d_S_tell_81 l_S_56 k_F_ownCode ⟨Nat.le_of_ble_eq_true rfl, Nat.le_of_ble_eq_true rfl⟩ rfl rfl (Nat.le_of_ble_eq_true rfl) (ct_F_ownCode) (by first | decide | (dsimp only; omega) | (dsimp only; grind)) (by first | decide | (dsimp only; omega) | (dsimp only; grind)) ?_
          first | rw [hc] | skip
          refine jr_geti d_S_tell_84 f_S_60 rfl ?_
          refine jr_goto (tgt := 122) d_S_tell_87 (by decide) ?_
          exact jr_retX (v := some _) d_S_tell_122 (by first | exact Nat.le_refl _ | exact Nat.zero_le _ | (dsimp only; omega)) (by first | exact Nat.le_refl _ | exact Nat.zero_le _ | (dsimp only; omega)) (by first | with_reducible rfl | (dsimp only; (subst e6; (repeat (first | rw [if_pos (by grind)] | rw [if_neg (by grind)]))); done) | (exfalso; grind)) (by first | with_reducible rfl | (dsimp only; (subst e6; (repeat (first | rw [if_pos (by grind)] | rw [if_neg (by grind)]))); done) | (exfalso; grind)) (by first | with_reducible rfl | (dsimp only; (subst e6; (repeat (first | rw [if_pos (by grind)] | rw [if_neg (by grind)]))); done) | (exfalso; grind)) (by first | with_reducible rfl | (dsimp only; (subst e6; (repeat (first | rw [if_pos (by grind)] | rw [if_neg (by grind)]))); done) | (exfalso; grind))
        · skip
          by_cases g6_4 : x6 = 4
          · refine jr_tableIn (tgt := 90) d_S_tell_6 (by rcases g6_4 with rfl <;> decide) (by rcases g6_4 with rfl <;> decide) (by rcases g6_4 with rfl <;> rfl) (by decide) ?_
            refine jr_aload_n d_S_tell_90 rfl rfl ?_
            refine jr_ifnonnull (tgt := 98) d_S_tell_91 (by decide) (fun q91 c91 => ?_) (fun c91 => by cases c91)
            refine jr_aload_n d_S_tell_98 rfl rfl ?_
            refine jv_V0r d_S_tell_99 l_S_63 k_F_at ⟨Nat.le_of_ble_eq_true rfl, Nat.le_of_ble_eq_true rfl⟩ rfl rfl (Nat.le_of_ble_eq_true rfl) (ct_F_at) (by first | decide | (dsimp only; omega) | (dsimp only; grind)) (by first | decide | (dsimp only; omega) | (dsimp only; grind)) ?_
            refine jr_goto (tgt := 122) d_S_tell_102 (by decide) ?_
            exact jr_retX (v := some _) d_S_tell_122 (by first | exact Nat.le_refl _ | exact Nat.zero_le _ | (dsimp only; omega)) (by first | exact Nat.le_refl _ | exact Nat.zero_le _ | (dsimp only; omega)) (by first | with_reducible rfl | (dsimp only; (subst e6; (repeat (first | rw [if_pos (by grind)] | rw [if_neg (by grind)]))); done) | (exfalso; grind)) (by first | with_reducible rfl | (dsimp only; (subst e6; (repeat (first | rw [if_pos (by grind)] | rw [if_neg (by grind)]))); done) | (exfalso; grind)) (by first | with_reducible rfl | (dsimp only; (subst e6; (repeat (first | rw [if_pos (by grind)] | rw [if_neg (by grind)]))); done) | (exfalso; grind)) (by first | with_reducible rfl | (dsimp only; (subst e6; (repeat (first | rw [if_pos (by grind)] | rw [if_neg (by grind)]))); done) | (exfalso; grind))
          · skip
            by_cases g6_5 : x6 = 5
            · refine jr_tableIn (tgt := 105) d_S_tell_6 (by rcases g6_5 with rfl <;> decide) (by rcases g6_5 with rfl <;> decide) (by rcases g6_5 with rfl <;> rfl) (by decide) ?_
              refine jr_aload_n d_S_tell_105 rfl rfl ?_
              refine jr_ifnonnull (tgt := 113) d_S_tell_106 (by decide) (fun q106 c106 => ?_) (fun c106 => by cases c106)
              refine jr_aload_n d_S_tell_113 rfl rfl ?_
              refine jv_V0r d_S_tell_114 l_S_67 k_F_depth ⟨Nat.le_of_ble_eq_true rfl, Nat.le_of_ble_eq_true rfl⟩ rfl rfl (Nat.le_of_ble_eq_true rfl) (ct_F_depth) (by first | decide | (dsimp only; omega) | (dsimp only; grind)) (by first | decide | (dsimp only; omega) | (dsimp only; grind)) ?_
              refine jr_goto (tgt := 122) d_S_tell_117 (by decide) ?_
              exact jr_retX (v := some _) d_S_tell_122 (by first | exact Nat.le_refl _ | exact Nat.zero_le _ | (dsimp only; omega)) (by first | exact Nat.le_refl _ | exact Nat.zero_le _ | (dsimp only; omega)) (by first | with_reducible rfl | (dsimp only; (subst e6; (repeat (first | rw [if_pos (by grind)] | rw [if_neg (by grind)]))); done) | (exfalso; grind)) (by first | with_reducible rfl | (dsimp only; (subst e6; (repeat (first | rw [if_pos (by grind)] | rw [if_neg (by grind)]))); done) | (exfalso; grind)) (by first | with_reducible rfl | (dsimp only; (subst e6; (repeat (first | rw [if_pos (by grind)] | rw [if_neg (by grind)]))); done) | (exfalso; grind)) (by first | with_reducible rfl | (dsimp only; (subst e6; (repeat (first | rw [if_pos (by grind)] | rw [if_neg (by grind)]))); done) | (exfalso; grind))
            · skip
              refine jr_tableE (tgt := 120) d_S_tell_6 (by rcases j_0_5 x6 with h | h | rfl | rfl | rfl | rfl | rfl | rfl <;> first | exact Or.inl ⟨Or.inl (Int32.lt_iff_toInt_lt.mp h), by decide⟩ | exact Or.inl ⟨Or.inr (Int32.lt_iff_toInt_lt.mp h), by decide⟩ | exact Or.inr ⟨by decide, by decide, _, rfl, by decide⟩ | (exfalso; grind)) ?_
              refine jr_bipush (v := (-14)) d_S_tell_120 (by decide) ?_
              exact jr_retX (v := some _) d_S_tell_122 (by first | exact Nat.le_refl _ | exact Nat.zero_le _ | (dsimp only; omega)) (by first | exact Nat.le_refl _ | exact Nat.zero_le _ | (dsimp only; omega)) (by first | with_reducible rfl | (dsimp only; (subst e6; (repeat (first | rw [if_pos (by grind)] | rw [if_neg (by grind)]))); done) | (exfalso; grind)) (by first | with_reducible rfl | (dsimp only; (subst e6; (repeat (first | rw [if_pos (by grind)] | rw [if_neg (by grind)]))); done) | (exfalso; grind)) (by first | with_reducible rfl | (dsimp only; (subst e6; (repeat (first | rw [if_pos (by grind)] | rw [if_neg (by grind)]))); done) | (exfalso; grind)) (by first | with_reducible rfl | (dsimp only; (subst e6; (repeat (first | rw [if_pos (by grind)] | rw [if_neg (by grind)]))); done) | (exfalso; grind))
theorem ct_S_tellN {I : jc_I} {O : jc_O} {live : jc_L → Prop} {t : Nat} {w : Int32} (h1 : O (9, t, 0) 1 = some (34, t, 0)) (h0 : I (9, t, 0) 2 = 0) : jc_Ct y_S_tell [.inr (some (9, t, 0)), .inl w] I O live (some (.inl (if w = 0 then I (9, t, 0) 3 else if w = 1 then I (9, t, 0) 2 else if w = 2 then I (9, t, 0) 5 else if w = 3 then -1 else if w = 4 then -1 else if w = 5 then 0 else -14)), I, O, live, 0, 0) := by
  refine jc_Ct.of (by decide +kernel) (Or.inl rfl) (Nat.le_of_ble_eq_true rfl) ?_
  refine jr_aload_n d_S_tell_0 rfl rfl ?_
  refine jv_V0r d_S_tell_1 l_S_52 k_S_top ⟨Nat.le_of_ble_eq_true rfl, Nat.le_of_ble_eq_true rfl⟩ rfl rfl (Nat.le_of_ble_eq_true rfl) (ct_S_topN h1 h0) (by first | decide | (dsimp only; omega) | (dsimp only; grind)) (by first | decide | (dsimp only; omega) | (dsimp only; grind)) ?_
  refine jr_astore_n d_S_tell_4 rfl (Nat.le_of_ble_eq_true rfl) ?_
  refine jr_iload_n d_S_tell_5 rfl rfl ?_
  refine jr_name (fun x6 e6 => ?_)
  by_cases g6_0 : x6 = 0
  · refine jr_tableIn (tgt := 44) d_S_tell_6 (by rcases g6_0 with rfl <;> decide) (by rcases g6_0 with rfl <;> decide) (by rcases g6_0 with rfl <;> rfl) (by decide) ?_
    refine jr_aload_n d_S_tell_44 rfl rfl ?_
    refine jr_geti d_S_tell_45 f_S_25 rfl ?_
    refine jr_goto (tgt := 122) d_S_tell_48 (by decide) ?_
    exact jr_retX (v := some _) d_S_tell_122 (by first | exact Nat.le_refl _ | exact Nat.zero_le _ | (dsimp only; omega)) (by first | exact Nat.le_refl _ | exact Nat.zero_le _ | (dsimp only; omega)) (by first | with_reducible rfl | (dsimp only; (subst e6; (repeat (first | rw [if_pos (by grind)] | rw [if_neg (by grind)]))); done) | (exfalso; grind)) (by first | with_reducible rfl | (dsimp only; (subst e6; (repeat (first | rw [if_pos (by grind)] | rw [if_neg (by grind)]))); done) | (exfalso; grind)) (by first | with_reducible rfl | (dsimp only; (subst e6; (repeat (first | rw [if_pos (by grind)] | rw [if_neg (by grind)]))); done) | (exfalso; grind)) (by first | with_reducible rfl | (dsimp only; (subst e6; (repeat (first | rw [if_pos (by grind)] | rw [if_neg (by grind)]))); done) | (exfalso; grind))
  · skip
    by_cases g6_1 : x6 = 1
    · refine jr_tableIn (tgt := 51) d_S_tell_6 (by rcases g6_1 with rfl <;> decide) (by rcases g6_1 with rfl <;> decide) (by rcases g6_1 with rfl <;> rfl) (by decide) ?_
      refine jr_aload_n d_S_tell_51 rfl rfl ?_
      refine jr_geti d_S_tell_52 f_S_22 rfl ?_
      refine jr_goto (tgt := 122) d_S_tell_55 (by decide) ?_
      exact jr_retX (v := some _) d_S_tell_122 (by first | exact Nat.le_refl _ | exact Nat.zero_le _ | (dsimp only; omega)) (by first | exact Nat.le_refl _ | exact Nat.zero_le _ | (dsimp only; omega)) (by first | with_reducible rfl | (dsimp only; (subst e6; (repeat (first | rw [if_pos (by grind)] | rw [if_neg (by grind)]))); done) | (exfalso; grind)) (by first | with_reducible rfl | (dsimp only; (subst e6; (repeat (first | rw [if_pos (by grind)] | rw [if_neg (by grind)]))); done) | (exfalso; grind)) (by first | with_reducible rfl | (dsimp only; (subst e6; (repeat (first | rw [if_pos (by grind)] | rw [if_neg (by grind)]))); done) | (exfalso; grind)) (by first | with_reducible rfl | (dsimp only; (subst e6; (repeat (first | rw [if_pos (by grind)] | rw [if_neg (by grind)]))); done) | (exfalso; grind))
    · skip
      by_cases g6_2 : x6 = 2
      · refine jr_tableIn (tgt := 58) d_S_tell_6 (by rcases g6_2 with rfl <;> decide) (by rcases g6_2 with rfl <;> decide) (by rcases g6_2 with rfl <;> rfl) (by decide) ?_
        refine jr_aload_n d_S_tell_58 rfl rfl ?_
        refine jr_geti d_S_tell_59 f_S_31 rfl ?_
        refine jr_goto (tgt := 122) d_S_tell_62 (by decide) ?_
        exact jr_retX (v := some _) d_S_tell_122 (by first | exact Nat.le_refl _ | exact Nat.zero_le _ | (dsimp only; omega)) (by first | exact Nat.le_refl _ | exact Nat.zero_le _ | (dsimp only; omega)) (by first | with_reducible rfl | (dsimp only; (subst e6; (repeat (first | rw [if_pos (by grind)] | rw [if_neg (by grind)]))); done) | (exfalso; grind)) (by first | with_reducible rfl | (dsimp only; (subst e6; (repeat (first | rw [if_pos (by grind)] | rw [if_neg (by grind)]))); done) | (exfalso; grind)) (by first | with_reducible rfl | (dsimp only; (subst e6; (repeat (first | rw [if_pos (by grind)] | rw [if_neg (by grind)]))); done) | (exfalso; grind)) (by first | with_reducible rfl | (dsimp only; (subst e6; (repeat (first | rw [if_pos (by grind)] | rw [if_neg (by grind)]))); done) | (exfalso; grind))
      · skip
        by_cases g6_3 : x6 = 3
        · refine jr_tableIn (tgt := 65) d_S_tell_6 (by rcases g6_3 with rfl <;> decide) (by rcases g6_3 with rfl <;> decide) (by rcases g6_3 with rfl <;> rfl) (by decide) ?_
          refine jr_aload_n d_S_tell_65 rfl rfl ?_
          refine jr_ifnull (tgt := 76) d_S_tell_66 (by decide) (fun c66 => ?_) (fun q66 c66 => by cases c66)
          refine jr_iconst (v := (-1)) d_S_tell_76 (by decide) ?_
          refine jr_goto (tgt := 122) d_S_tell_77 (by decide) ?_
          exact jr_retX (v := some _) d_S_tell_122 (by first | exact Nat.le_refl _ | exact Nat.zero_le _ | (dsimp only; omega)) (by first | exact Nat.le_refl _ | exact Nat.zero_le _ | (dsimp only; omega)) (by first | with_reducible rfl | (dsimp only; (subst e6; (repeat (first | rw [if_pos (by grind)] | rw [if_neg (by grind)]))); done) | (exfalso; grind)) (by first | with_reducible rfl | (dsimp only; (subst e6; (repeat (first | rw [if_pos (by grind)] | rw [if_neg (by grind)]))); done) | (exfalso; grind)) (by first | with_reducible rfl | (dsimp only; (subst e6; (repeat (first | rw [if_pos (by grind)] | rw [if_neg (by grind)]))); done) | (exfalso; grind)) (by first | with_reducible rfl | (dsimp only; (subst e6; (repeat (first | rw [if_pos (by grind)] | rw [if_neg (by grind)]))); done) | (exfalso; grind))
        · skip
          by_cases g6_4 : x6 = 4
          · refine jr_tableIn (tgt := 90) d_S_tell_6 (by rcases g6_4 with rfl <;> decide) (by rcases g6_4 with rfl <;> decide) (by rcases g6_4 with rfl <;> rfl) (by decide) ?_
            refine jr_aload_n d_S_tell_90 rfl rfl ?_
            refine jr_ifnonnull (tgt := 98) d_S_tell_91 (by decide) (fun q91 c91 => by cases c91) (fun c91 => ?_)
            refine jr_iconst (v := (-1)) d_S_tell_94 (by decide) ?_
            refine jr_goto (tgt := 122) d_S_tell_95 (by decide) ?_
            exact jr_retX (v := some _) d_S_tell_122 (by first | exact Nat.le_refl _ | exact Nat.zero_le _ | (dsimp only; omega)) (by first | exact Nat.le_refl _ | exact Nat.zero_le _ | (dsimp only; omega)) (by first | with_reducible rfl | (dsimp only; (subst e6; (repeat (first | rw [if_pos (by grind)] | rw [if_neg (by grind)]))); done) | (exfalso; grind)) (by first | with_reducible rfl | (dsimp only; (subst e6; (repeat (first | rw [if_pos (by grind)] | rw [if_neg (by grind)]))); done) | (exfalso; grind)) (by first | with_reducible rfl | (dsimp only; (subst e6; (repeat (first | rw [if_pos (by grind)] | rw [if_neg (by grind)]))); done) | (exfalso; grind)) (by first | with_reducible rfl | (dsimp only; (subst e6; (repeat (first | rw [if_pos (by grind)] | rw [if_neg (by grind)]))); done) | (exfalso; grind))
          · skip
            by_cases g6_5 : x6 = 5
            · refine jr_tableIn (tgt := 105) d_S_tell_6 (by rcases g6_5 with rfl <;> decide) (by rcases g6_5 with rfl <;> decide) (by rcases g6_5 with rfl <;> rfl) (by decide) ?_
              refine jr_aload_n d_S_tell_105 rfl rfl ?_
              refine jr_ifnonnull (tgt := 113) d_S_tell_106 (by decide) (fun q106 c106 => by cases c106) (fun c106 => ?_)
              refine jr_iconst (v := 0) d_S_tell_109 (by decide) ?_
              refine jr_goto (tgt := 122) d_S_tell_110 (by decide) ?_
              exact jr_retX (v := some _) d_S_tell_122 (by first | exact Nat.le_refl _ | exact Nat.zero_le _ | (dsimp only; omega)) (by first | exact Nat.le_refl _ | exact Nat.zero_le _ | (dsimp only; omega)) (by first | with_reducible rfl | (dsimp only; (subst e6; (repeat (first | rw [if_pos (by grind)] | rw [if_neg (by grind)]))); done) | (exfalso; grind)) (by first | with_reducible rfl | (dsimp only; (subst e6; (repeat (first | rw [if_pos (by grind)] | rw [if_neg (by grind)]))); done) | (exfalso; grind)) (by first | with_reducible rfl | (dsimp only; (subst e6; (repeat (first | rw [if_pos (by grind)] | rw [if_neg (by grind)]))); done) | (exfalso; grind)) (by first | with_reducible rfl | (dsimp only; (subst e6; (repeat (first | rw [if_pos (by grind)] | rw [if_neg (by grind)]))); done) | (exfalso; grind))
            · skip
              refine jr_tableE (tgt := 120) d_S_tell_6 (by rcases j_0_5 x6 with h | h | rfl | rfl | rfl | rfl | rfl | rfl <;> first | exact Or.inl ⟨Or.inl (Int32.lt_iff_toInt_lt.mp h), by decide⟩ | exact Or.inl ⟨Or.inr (Int32.lt_iff_toInt_lt.mp h), by decide⟩ | exact Or.inr ⟨by decide, by decide, _, rfl, by decide⟩ | (exfalso; grind)) ?_
              refine jr_bipush (v := (-14)) d_S_tell_120 (by decide) ?_
              exact jr_retX (v := some _) d_S_tell_122 (by first | exact Nat.le_refl _ | exact Nat.zero_le _ | (dsimp only; omega)) (by first | exact Nat.le_refl _ | exact Nat.zero_le _ | (dsimp only; omega)) (by first | with_reducible rfl | (dsimp only; (subst e6; (repeat (first | rw [if_pos (by grind)] | rw [if_neg (by grind)]))); done) | (exfalso; grind)) (by first | with_reducible rfl | (dsimp only; (subst e6; (repeat (first | rw [if_pos (by grind)] | rw [if_neg (by grind)]))); done) | (exfalso; grind)) (by first | with_reducible rfl | (dsimp only; (subst e6; (repeat (first | rw [if_pos (by grind)] | rw [if_neg (by grind)]))); done) | (exfalso; grind)) (by first | with_reducible rfl | (dsimp only; (subst e6; (repeat (first | rw [if_pos (by grind)] | rw [if_neg (by grind)]))); done) | (exfalso; grind))
