/-- the rows that take a failure, from r on, m of them left -/
def c_tk (I : jc_I) (c : Nat) (x k : Int32) : Nat → Nat → Int32
  | 0, _ => -1
  | m + 1, r => if I (5, c, r) 0 ≤ x ∧ x < I (5, c, r) 1 ∧ (I (5, c, r) 3 = 10 ∨ I (5, c, r) 3 = k) then I (5, c, r) 2 else c_tk I c x k m (r + 1)
def g_njp (I : jc_I) (c : Nat) : Nat → Nat → Int32
  | 0, _ => 1
  | m + 1, r => if (I (21, c, 0) r = 11 ∨ I (21, c, 0) r = 12 ∨ I (21, c, 0) r = 13) ∧ ¬ (0 ≤ I (22, c, 0) r ∧ I (22, c, 0) r < I (6, c, 0) 8) then 0 else g_njp I c m (r + 1)
def g_nrp (I : jc_I) (c : Nat) : Nat → Nat → Int32
  | 0, _ => 1
  | m + 1, r => if I (5, c, r) 1 ≤ I (5, c, r) 0 ∨ I (6, c, 0) 8 < I (5, c, r) 1 ∨ ¬ (0 ≤ I (5, c, r) 2 ∧ I (5, c, r) 2 < I (6, c, 0) 8) then 0 else g_nrp I c m (r + 1)
theorem jfu {i n : Int32} {m : Nat} (hm : n.toInt - i.toInt = ((m + 1 : Nat) : Int)) : i < n := by rw [jlt]; omega
theorem jf0 {i n : Int32} (hm : n.toInt - i.toInt = ((0 : Nat) : Int)) : i = n := Int32.toInt_inj.mp (by omega)
theorem jf1 {i n : Int32} {m : Nat} (hm : n.toInt - i.toInt = ((m + 1 : Nat) : Int)) : n.toInt - (i + 1).toInt = (m : Int) := by
  have h := jfu hm
  have h1 : i < 2147483647 := by
    rw [jlt] at h ⊢
    have h2 : (2147483647 : Int32).toInt = 2147483647 := by decide
    have h3 := Int32.toInt_le n
    have h4 : Int32.maxValue.toInt = 2147483647 := by decide
    omega
  rw [jI1 h1]
  omega
theorem jfn {n : Int32} (h : 0 ≤ n) : n.toInt - (0 : Int32).toInt = (n.toNatClampNeg : Int) := by
  rw [j0I, jNI h]
  omega
/-- the rows of a code are there -/
def jw_r (I : jc_I) (O : jc_O) (c : Nat) : Prop := ∀ r : Nat, (r : Int) < (I (6, c, 0) 9).toInt → O (23, c, 0) r = some (5, c, r)
theorem jlN {i n : Int32} (h0 : 0 ≤ i) (h : i < n) : (i.toNatClampNeg : Int) < n.toInt := by rw [jNI h0]; exact jlt.mp h
theorem jN1' {i n : Int32} (h0 : 0 ≤ i) (h : i < n) : (i + 1).toNatClampNeg = i.toNatClampNeg + 1 := jN1 h0 (by
  rw [jlt] at h ⊢
  have h2 : (2147483647 : Int32).toInt = 2147483647 := by decide
  have h3 := Int32.toInt_le n
  have h4 : Int32.maxValue.toInt = 2147483647 := by decide
  omega)
theorem lp_C_takerOf {I : jc_I} {O : jc_O} {live : jc_L → Prop} {c : Nat} {x k : Int32} (hC : jw_C O c) (hn : jw_n I c) (hr : jw_r I O c) : ∀ (m : Nat) (i : Int32) (u : Option jc_V), 0 ≤ i → (I (6, c, 0) 9).toInt - i.toInt = (m : Int) → jc_R y_C_takerOf 2 [some (.inr (some (6, c, 0))), some (.inl x), some (.inl k), some (.inl i), u] [] I O live 0 0 (some (.inl (c_tk I c x k m i.toNatClampNeg)), I, O, live, 0, 0) := by
  intro m
  induction m with
  | zero =>
    intro i u hi0 hm
    have ez := jf0 hm
    refine jr_iload_n d_C_takerOf_2 rfl rfl ?_
    refine jr_aload_n d_C_takerOf_3 rfl rfl ?_
    refine jr_geti d_C_takerOf_4 f_C_43 rfl ?_
    refine jr_icmp_ge (tgt := 44) d_C_takerOf_7 (by decide) (fun c7 => ?_) (fun c7 => ?_)
    · skip
      refine jr_iconst (v := (-1)) d_C_takerOf_44 (by decide) ?_
      exact jr_retX (v := some _) d_C_takerOf_45 (by first | exact Nat.le_refl _ | exact Nat.zero_le _ | (dsimp only; omega)) (by first | exact Nat.le_refl _ | exact Nat.zero_le _ | (dsimp only; omega)) (by first | with_reducible rfl | (dsimp only; rfl; done) | (exfalso; grind)) (by first | with_reducible rfl | (dsimp only; rfl; done) | (exfalso; grind)) (by first | with_reducible rfl | (dsimp only; rfl; done) | (exfalso; grind)) (by first | with_reducible rfl | (dsimp only; rfl; done) | (exfalso; grind))
    · skip
      exfalso; grind
  | succ m ih =>
    intro i u hi0 hm
    have hlt := jfu hm
    obtain ⟨hC3, hC4, hC5, hC6⟩ := id hC
    obtain ⟨n7, n7b, n8, n8b, n9, n9b⟩ := id hn
    refine jr_iload_n d_C_takerOf_2 rfl rfl ?_
    refine jr_aload_n d_C_takerOf_3 rfl rfl ?_
    refine jr_geti d_C_takerOf_4 f_C_43 rfl ?_
    refine jr_icmp_ge (tgt := 44) d_C_takerOf_7 (by decide) (fun c7 => ?_) (fun c7 => ?_)
    · skip
      exfalso; clear ih; grind
    · skip
      refine jr_aload_n d_C_takerOf_10 rfl rfl ?_
      refine jr_iload_n d_C_takerOf_11 rfl rfl ?_
      refine jv_V1r d_C_takerOf_12 l_C_49 k_C_rowAt ⟨Nat.le_of_ble_eq_true rfl, Nat.le_of_ble_eq_true rfl⟩ rfl rfl (Nat.le_of_ble_eq_true rfl) (ct_C_rowAt hC6 n9b) (by clear ih; grind) (by clear ih; grind) ?_
      rw [if_pos ⟨by clear ih; grind, by clear ih; grind⟩, hr _ (jlN hi0 hlt)]
      refine jr_astore d_C_takerOf_15 (Nat.le_of_ble_eq_true rfl) ?_
      refine jr_aload d_C_takerOf_17 rfl ?_
      refine jr_ifnull (tgt := 38) d_C_takerOf_19 (by decide) (fun c19 => by cases c19) (fun q19 c19 => ?_)
      refine jr_aload d_C_takerOf_22 rfl ?_
      refine jr_iload_n d_C_takerOf_24 rfl rfl ?_
      refine jr_iload_n d_C_takerOf_25 rfl rfl ?_
      refine jv_V2r d_C_takerOf_26 l_C_53 k_R_takes ⟨Nat.le_of_ble_eq_true rfl, Nat.le_of_ble_eq_true rfl⟩ rfl rfl (Nat.le_of_ble_eq_true rfl) (ct_R_takes) (by clear ih; grind) (by clear ih; grind) ?_
      refine jr_if_eq (tgt := 38) d_C_takerOf_29 (by decide) (fun c29 => ?_) (fun c29 => ?_)
      · skip
        refine jr_iinc d_C_takerOf_38 rfl jinc1 ?_
        refine jr_goto (tgt := 2) d_C_takerOf_41 (by decide) ?_
        exact (by have e := ih (i + 1) (some (.inr (some (5, c, i.toNatClampNeg)))) (by clear ih; grind) (jf1 hm); rw [jN1' hi0 hlt] at e; rw [c_tk, if_neg (by clear ih e; grind)]; exact e)
      · skip
        refine jr_aload d_C_takerOf_32 rfl ?_
        refine jr_geti d_C_takerOf_34 f_C_57 rfl ?_
        exact jr_retX (v := some _) d_C_takerOf_37 (by first | exact Nat.le_refl _ | exact Nat.zero_le _ | (dsimp only; omega)) (by first | exact Nat.le_refl _ | exact Nat.zero_le _ | (dsimp only; omega)) (by first | with_reducible rfl | (dsimp only; (rw [c_tk, if_pos (by clear ih; grind)]); done) | (exfalso; clear ih; grind)) (by first | with_reducible rfl | (dsimp only; (rw [c_tk, if_pos (by clear ih; grind)]); done) | (exfalso; clear ih; grind)) (by first | with_reducible rfl | (dsimp only; (rw [c_tk, if_pos (by clear ih; grind)]); done) | (exfalso; clear ih; grind)) (by first | with_reducible rfl | (dsimp only; (rw [c_tk, if_pos (by clear ih; grind)]); done) | (exfalso; clear ih; grind))
theorem ct_C_takerOf {I : jc_I} {O : jc_O} {live : jc_L → Prop} {c : Nat} {x k : Int32} (hC : jw_C O c) (hn : jw_n I c) (hr : jw_r I O c) : jc_Ct y_C_takerOf [.inr (some (6, c, 0)), .inl x, .inl k] I O live (some (.inl (c_tk I c x k (I (6, c, 0) 9).toNatClampNeg 0)), I, O, live, 0, 0) := by
  refine jc_Ct.of (by decide +kernel) (Or.inl rfl) (Nat.le_of_ble_eq_true rfl) ?_
  refine jr_iconst (v := 0) d_C_takerOf_0 (by decide) ?_
  refine jr_istore_n d_C_takerOf_1 rfl (Nat.le_of_ble_eq_true rfl) ?_
  exact lp_C_takerOf hC hn hr _ 0 none (by decide) (jfn hn.2.2.2.2.1)
theorem lp_G_namesJumpPlaces {I : jc_I} {O : jc_O} {live : jc_L → Prop} {c : Nat} (hC : jw_C O c) (hn : jw_n I c) : ∀ (m : Nat) (i : Int32), 0 ≤ i → (I (6, c, 0) 8).toInt - i.toInt = (m : Int) → jc_R y_G_namesJumpPlaces 2 [some (.inr (some (2, 0, 0))), some (.inr (some (6, c, 0))), some (.inl i)] [] I O live 0 0 (some (.inl (g_njp I c m i.toNatClampNeg)), I, O, live, 0, 0) := by
  intro m
  induction m with
  | zero =>
    intro i hi0 hm
    have ez := jf0 hm
    refine jr_iload_n d_G_namesJumpPlaces_2 rfl rfl ?_
    refine jr_aload_n d_G_namesJumpPlaces_3 rfl rfl ?_
    refine jv_V0r d_G_namesJumpPlaces_4 l_G_29 k_C_size ⟨Nat.le_of_ble_eq_true rfl, Nat.le_of_ble_eq_true rfl⟩ rfl rfl (Nat.le_of_ble_eq_true rfl) (ct_C_size) (by grind) (by grind) ?_
    refine jr_icmp_ge (tgt := 41) d_G_namesJumpPlaces_7 (by decide) (fun c7 => ?_) (fun c7 => ?_)
    · skip
      refine jr_iconst (v := 1) d_G_namesJumpPlaces_41 (by decide) ?_
      exact jr_retX (v := some _) d_G_namesJumpPlaces_42 (by first | exact Nat.le_refl _ | exact Nat.zero_le _ | (dsimp only; omega)) (by first | exact Nat.le_refl _ | exact Nat.zero_le _ | (dsimp only; omega)) (by first | with_reducible rfl | (dsimp only; rfl; done) | (exfalso; grind)) (by first | with_reducible rfl | (dsimp only; rfl; done) | (exfalso; grind)) (by first | with_reducible rfl | (dsimp only; rfl; done) | (exfalso; grind)) (by first | with_reducible rfl | (dsimp only; rfl; done) | (exfalso; grind))
    · skip
      exfalso; grind
  | succ m ih =>
    intro i hi0 hm
    have hlt := jfu hm
    obtain ⟨hC3, hC4, hC5, hC6⟩ := id hC
    obtain ⟨n7, n7b, n8, n8b, n9, n9b⟩ := id hn
    refine jr_iload_n d_G_namesJumpPlaces_2 rfl rfl ?_
    refine jr_aload_n d_G_namesJumpPlaces_3 rfl rfl ?_
    refine jv_V0r d_G_namesJumpPlaces_4 l_G_29 k_C_size ⟨Nat.le_of_ble_eq_true rfl, Nat.le_of_ble_eq_true rfl⟩ rfl rfl (Nat.le_of_ble_eq_true rfl) (ct_C_size) (by clear ih; grind) (by clear ih; grind) ?_
    refine jr_icmp_ge (tgt := 41) d_G_namesJumpPlaces_7 (by decide) (fun c7 => ?_) (fun c7 => ?_)
    · skip
      exfalso; clear ih; grind
    · skip
      refine jr_aload_n d_G_namesJumpPlaces_10 rfl rfl ?_
      refine jr_iload_n d_G_namesJumpPlaces_11 rfl rfl ?_
      refine jv_V1r d_G_namesJumpPlaces_12 l_G_35 k_C_op ⟨Nat.le_of_ble_eq_true rfl, Nat.le_of_ble_eq_true rfl⟩ rfl rfl (Nat.le_of_ble_eq_true rfl) (ct_C_op hC4 n8b) (by clear ih; grind) (by clear ih; grind) ?_
      rw [if_pos ⟨by clear ih; grind, by clear ih; grind⟩]
      refine jv_SN1r d_G_namesJumpPlaces_15 l_G_100 k_J_isJump ⟨Nat.le_of_ble_eq_true rfl, Nat.le_of_ble_eq_true rfl⟩ (Nat.le_of_ble_eq_true rfl) (ct_J_isJump) (by clear ih; grind) (by clear ih; grind) ?_
      refine jr_if_eq (tgt := 35) d_G_namesJumpPlaces_18 (by decide) (fun c18 => ?_) (fun c18 => ?_)
      · skip
        refine jr_iinc d_G_namesJumpPlaces_35 rfl jinc1 ?_
        refine jr_goto (tgt := 2) d_G_namesJumpPlaces_38 (by decide) ?_
        exact (by have e := ih (i + 1) (by clear ih; grind) (jf1 hm); rw [jN1' hi0 hlt] at e; rw [g_njp, if_neg (by clear ih e; grind)]; exact e)
      · skip
        refine jr_aload_n d_G_namesJumpPlaces_21 rfl rfl ?_
        refine jr_aload_n d_G_namesJumpPlaces_22 rfl rfl ?_
        refine jr_iload_n d_G_namesJumpPlaces_23 rfl rfl ?_
        refine jv_V1r d_G_namesJumpPlaces_24 l_G_72 k_C_operand ⟨Nat.le_of_ble_eq_true rfl, Nat.le_of_ble_eq_true rfl⟩ rfl rfl (Nat.le_of_ble_eq_true rfl) (ct_C_operand hC5 n8b) (by clear ih; grind) (by clear ih; grind) ?_
        rw [if_pos ⟨by clear ih; grind, by clear ih; grind⟩]
        refine jv_V1r d_G_namesJumpPlaces_27 l_G_103 k_C_hasInstruction ⟨Nat.le_of_ble_eq_true rfl, Nat.le_of_ble_eq_true rfl⟩ rfl rfl (Nat.le_of_ble_eq_true rfl) (ct_C_hasInstruction) (by clear ih; grind) (by clear ih; grind) ?_
        refine jr_if_ne (tgt := 35) d_G_namesJumpPlaces_30 (by decide) (fun c30 => ?_) (fun c30 => ?_)
        · skip
          refine jr_iinc d_G_namesJumpPlaces_35 rfl jinc1 ?_
          refine jr_goto (tgt := 2) d_G_namesJumpPlaces_38 (by decide) ?_
          exact (by have e := ih (i + 1) (by clear ih; grind) (jf1 hm); rw [jN1' hi0 hlt] at e; rw [g_njp, if_neg (by clear ih e; grind)]; exact e)
        · skip
          refine jr_iconst (v := 0) d_G_namesJumpPlaces_33 (by decide) ?_
          exact jr_retX (v := some _) d_G_namesJumpPlaces_34 (by first | exact Nat.le_refl _ | exact Nat.zero_le _ | (dsimp only; omega)) (by first | exact Nat.le_refl _ | exact Nat.zero_le _ | (dsimp only; omega)) (by first | with_reducible rfl | (dsimp only; (rw [g_njp, if_pos (by clear ih; grind)]); done) | (exfalso; clear ih; grind)) (by first | with_reducible rfl | (dsimp only; (rw [g_njp, if_pos (by clear ih; grind)]); done) | (exfalso; clear ih; grind)) (by first | with_reducible rfl | (dsimp only; (rw [g_njp, if_pos (by clear ih; grind)]); done) | (exfalso; clear ih; grind)) (by first | with_reducible rfl | (dsimp only; (rw [g_njp, if_pos (by clear ih; grind)]); done) | (exfalso; clear ih; grind))
theorem g_njp01 (I : jc_I) (c m r : Nat) : g_njp I c m r = 0 ∨ g_njp I c m r = 1 := by
  induction m generalizing r with
  | zero => exact Or.inr rfl
  | succ m ih => rw [g_njp]; split; exact Or.inl rfl; exact ih _
theorem g_nrp01 (I : jc_I) (c m r : Nat) : g_nrp I c m r = 0 ∨ g_nrp I c m r = 1 := by
  induction m generalizing r with
  | zero => exact Or.inr rfl
  | succ m ih => rw [g_nrp]; split; exact Or.inl rfl; exact ih _
theorem ct_G_namesJumpPlaces {I : jc_I} {O : jc_O} {live : jc_L → Prop} {c : Nat} (hC : jw_C O c) (hn : jw_n I c) : jc_Ct y_G_namesJumpPlaces [.inr (some (2, 0, 0)), .inr (some (6, c, 0))] I O live (some (.inl (g_njp I c (I (6, c, 0) 8).toNatClampNeg 0)), I, O, live, 0, 0) := by
  refine jc_Ct.of (by decide +kernel) (Or.inr ⟨rfl, g_njp01 _ _ _ _⟩) (Nat.le_of_ble_eq_true rfl) ?_
  refine jr_iconst (v := 0) d_G_namesJumpPlaces_0 (by decide) ?_
  refine jr_istore_n d_G_namesJumpPlaces_1 rfl (Nat.le_of_ble_eq_true rfl) ?_
  exact lp_G_namesJumpPlaces hC hn _ 0 (by decide) (jfn hn.2.2.1)
theorem lp_G_namesRowPlaces {I : jc_I} {O : jc_O} {live : jc_L → Prop} {c : Nat} (hC : jw_C O c) (hn : jw_n I c) (hr : jw_r I O c) : ∀ (m : Nat) (i : Int32) (u : Option jc_V), 0 ≤ i → (I (6, c, 0) 9).toInt - i.toInt = (m : Int) → jc_R y_G_namesRowPlaces 2 [some (.inr (some (2, 0, 0))), some (.inr (some (6, c, 0))), some (.inl i), u] [] I O live 0 0 (some (.inl (g_nrp I c m i.toNatClampNeg)), I, O, live, 0, 0) := by
  intro m
  induction m with
  | zero =>
    intro i u hi0 hm
    have ez := jf0 hm
    refine jr_iload_n d_G_namesRowPlaces_2 rfl rfl ?_
    refine jr_aload_n d_G_namesRowPlaces_3 rfl rfl ?_
    refine jv_V0r d_G_namesRowPlaces_4 l_G_106 k_C_rowCount ⟨Nat.le_of_ble_eq_true rfl, Nat.le_of_ble_eq_true rfl⟩ rfl rfl (Nat.le_of_ble_eq_true rfl) (ct_C_rowCount) (by grind) (by grind) ?_
    refine jr_icmp_ge (tgt := 61) d_G_namesRowPlaces_7 (by decide) (fun c7 => ?_) (fun c7 => ?_)
    · skip
      refine jr_iconst (v := 1) d_G_namesRowPlaces_61 (by decide) ?_
      exact jr_retX (v := some _) d_G_namesRowPlaces_62 (by first | exact Nat.le_refl _ | exact Nat.zero_le _ | (dsimp only; omega)) (by first | exact Nat.le_refl _ | exact Nat.zero_le _ | (dsimp only; omega)) (by first | with_reducible rfl | (dsimp only; rfl; done) | (exfalso; grind)) (by first | with_reducible rfl | (dsimp only; rfl; done) | (exfalso; grind)) (by first | with_reducible rfl | (dsimp only; rfl; done) | (exfalso; grind)) (by first | with_reducible rfl | (dsimp only; rfl; done) | (exfalso; grind))
    · skip
      exfalso; grind
  | succ m ih =>
    intro i u hi0 hm
    have hlt := jfu hm
    obtain ⟨hC3, hC4, hC5, hC6⟩ := id hC
    obtain ⟨n7, n7b, n8, n8b, n9, n9b⟩ := id hn
    refine jr_iload_n d_G_namesRowPlaces_2 rfl rfl ?_
    refine jr_aload_n d_G_namesRowPlaces_3 rfl rfl ?_
    refine jv_V0r d_G_namesRowPlaces_4 l_G_106 k_C_rowCount ⟨Nat.le_of_ble_eq_true rfl, Nat.le_of_ble_eq_true rfl⟩ rfl rfl (Nat.le_of_ble_eq_true rfl) (ct_C_rowCount) (by clear ih; grind) (by clear ih; grind) ?_
    refine jr_icmp_ge (tgt := 61) d_G_namesRowPlaces_7 (by decide) (fun c7 => ?_) (fun c7 => ?_)
    · skip
      exfalso; clear ih; grind
    · skip
      refine jr_aload_n d_G_namesRowPlaces_10 rfl rfl ?_
      refine jr_iload_n d_G_namesRowPlaces_11 rfl rfl ?_
      refine jv_V1r d_G_namesRowPlaces_12 l_G_109 k_C_rowAt ⟨Nat.le_of_ble_eq_true rfl, Nat.le_of_ble_eq_true rfl⟩ rfl rfl (Nat.le_of_ble_eq_true rfl) (ct_C_rowAt hC6 n9b) (by clear ih; grind) (by clear ih; grind) ?_
      rw [if_pos ⟨by clear ih; grind, by clear ih; grind⟩, hr _ (jlN hi0 hlt)]
      refine jr_astore_n d_G_namesRowPlaces_15 rfl (Nat.le_of_ble_eq_true rfl) ?_
      refine jr_aload_n d_G_namesRowPlaces_16 rfl rfl ?_
      refine jr_ifnull (tgt := 53) d_G_namesRowPlaces_17 (by decide) (fun c17 => by cases c17) (fun q17 c17 => ?_)
      refine jr_aload_n d_G_namesRowPlaces_20 rfl rfl ?_
      refine jr_geti d_G_namesRowPlaces_21 f_G_113 rfl ?_
      refine jr_aload_n d_G_namesRowPlaces_24 rfl rfl ?_
      refine jr_geti d_G_namesRowPlaces_25 f_G_118 rfl ?_
      refine jr_icmp_ge (tgt := 53) d_G_namesRowPlaces_28 (by decide) (fun c28 => ?_) (fun c28 => ?_)
      · skip
        refine jr_iconst (v := 0) d_G_namesRowPlaces_53 (by decide) ?_
        exact jr_retX (v := some _) d_G_namesRowPlaces_54 (by first | exact Nat.le_refl _ | exact Nat.zero_le _ | (dsimp only; omega)) (by first | exact Nat.le_refl _ | exact Nat.zero_le _ | (dsimp only; omega)) (by first | with_reducible rfl | (dsimp only; (rw [g_nrp, if_pos (by clear ih; grind)]); done) | (exfalso; clear ih; grind)) (by first | with_reducible rfl | (dsimp only; (rw [g_nrp, if_pos (by clear ih; grind)]); done) | (exfalso; clear ih; grind)) (by first | with_reducible rfl | (dsimp only; (rw [g_nrp, if_pos (by clear ih; grind)]); done) | (exfalso; clear ih; grind)) (by first | with_reducible rfl | (dsimp only; (rw [g_nrp, if_pos (by clear ih; grind)]); done) | (exfalso; clear ih; grind))
      · skip
        refine jr_aload_n d_G_namesRowPlaces_31 rfl rfl ?_
        refine jr_geti d_G_namesRowPlaces_32 f_G_118 rfl ?_
        refine jr_aload_n d_G_namesRowPlaces_35 rfl rfl ?_
        refine jv_V0r d_G_namesRowPlaces_36 l_G_29 k_C_size ⟨Nat.le_of_ble_eq_true rfl, Nat.le_of_ble_eq_true rfl⟩ rfl rfl (Nat.le_of_ble_eq_true rfl) (ct_C_size) (by clear ih; grind) (by clear ih; grind) ?_
        refine jr_icmp_gt (tgt := 53) d_G_namesRowPlaces_39 (by decide) (fun c39 => ?_) (fun c39 => ?_)
        · skip
          refine jr_iconst (v := 0) d_G_namesRowPlaces_53 (by decide) ?_
          exact jr_retX (v := some _) d_G_namesRowPlaces_54 (by first | exact Nat.le_refl _ | exact Nat.zero_le _ | (dsimp only; omega)) (by first | exact Nat.le_refl _ | exact Nat.zero_le _ | (dsimp only; omega)) (by first | with_reducible rfl | (dsimp only; (rw [g_nrp, if_pos (by clear ih; grind)]); done) | (exfalso; clear ih; grind)) (by first | with_reducible rfl | (dsimp only; (rw [g_nrp, if_pos (by clear ih; grind)]); done) | (exfalso; clear ih; grind)) (by first | with_reducible rfl | (dsimp only; (rw [g_nrp, if_pos (by clear ih; grind)]); done) | (exfalso; clear ih; grind)) (by first | with_reducible rfl | (dsimp only; (rw [g_nrp, if_pos (by clear ih; grind)]); done) | (exfalso; clear ih; grind))
        · skip
          refine jr_aload_n d_G_namesRowPlaces_42 rfl rfl ?_
          refine jr_aload_n d_G_namesRowPlaces_43 rfl rfl ?_
          refine jr_geti d_G_namesRowPlaces_44 f_G_121 rfl ?_
          refine jv_V1r d_G_namesRowPlaces_47 l_G_103 k_C_hasInstruction ⟨Nat.le_of_ble_eq_true rfl, Nat.le_of_ble_eq_true rfl⟩ rfl rfl (Nat.le_of_ble_eq_true rfl) (ct_C_hasInstruction) (by clear ih; grind) (by clear ih; grind) ?_
          refine jr_if_ne (tgt := 55) d_G_namesRowPlaces_50 (by decide) (fun c50 => ?_) (fun c50 => ?_)
          · skip
            refine jr_iinc d_G_namesRowPlaces_55 rfl jinc1 ?_
            refine jr_goto (tgt := 2) d_G_namesRowPlaces_58 (by decide) ?_
            exact (by have e := ih (i + 1) (some (.inr (some (5, c, i.toNatClampNeg)))) (by clear ih; grind) (jf1 hm); rw [jN1' hi0 hlt] at e; rw [g_nrp, if_neg (by clear ih e; grind)]; exact e)
          · skip
            refine jr_iconst (v := 0) d_G_namesRowPlaces_53 (by decide) ?_
            exact jr_retX (v := some _) d_G_namesRowPlaces_54 (by first | exact Nat.le_refl _ | exact Nat.zero_le _ | (dsimp only; omega)) (by first | exact Nat.le_refl _ | exact Nat.zero_le _ | (dsimp only; omega)) (by first | with_reducible rfl | (dsimp only; (rw [g_nrp, if_pos (by clear ih; grind)]); done) | (exfalso; clear ih; grind)) (by first | with_reducible rfl | (dsimp only; (rw [g_nrp, if_pos (by clear ih; grind)]); done) | (exfalso; clear ih; grind)) (by first | with_reducible rfl | (dsimp only; (rw [g_nrp, if_pos (by clear ih; grind)]); done) | (exfalso; clear ih; grind)) (by first | with_reducible rfl | (dsimp only; (rw [g_nrp, if_pos (by clear ih; grind)]); done) | (exfalso; clear ih; grind))
theorem ct_G_namesRowPlaces {I : jc_I} {O : jc_O} {live : jc_L → Prop} {c : Nat} (hC : jw_C O c) (hn : jw_n I c) (hr : jw_r I O c) : jc_Ct y_G_namesRowPlaces [.inr (some (2, 0, 0)), .inr (some (6, c, 0))] I O live (some (.inl (g_nrp I c (I (6, c, 0) 9).toNatClampNeg 0)), I, O, live, 0, 0) := by
  refine jc_Ct.of (by decide +kernel) (Or.inr ⟨rfl, g_nrp01 _ _ _ _⟩) (Nat.le_of_ble_eq_true rfl) ?_
  refine jr_iconst (v := 0) d_G_namesRowPlaces_0 (by decide) ?_
  refine jr_istore_n d_G_namesRowPlaces_1 rfl (Nat.le_of_ble_eq_true rfl) ?_
  exact lp_G_namesRowPlaces hC hn hr _ 0 none (by decide) (jfn hn.2.2.2.2.1)
