theorem wd_gd : Cond.declares ⟨"java/lang/Object", "getClass", "()Ljava/lang/Class;"⟩ ∈ lw_tbl := jt6 (i := 30) rfl
theorem wd_gs : Cond.selects "[Ljava/lang/Object;" ⟨"java/lang/Object", "getClass", "()Ljava/lang/Class;"⟩ ⟨"java/lang/Object", "getClass", "()Ljava/lang/Class;"⟩ ∈ lw_tbl := jt6 (i := 29) rfl
theorem wd_gi : Cond.instanceMethod ⟨"java/lang/Object", "getClass", "()Ljava/lang/Class;"⟩ ∈ lw_tbl := jt4 (i := 197) rfl
theorem wd_gn : Cond.native ⟨"java/lang/Object", "getClass", "()Ljava/lang/Class;"⟩ ∈ lw_tbl := jt4 (i := 215) rfl
theorem wd_an : Cond.native arraycopyName ∈ lw_tbl := jt4 (i := 227) rfl
theorem wd_as : Cond.static arraycopyName ∈ lw_tbl := jt4 (i := 226) rfl
theorem wd_ai : Cond.initialized "java/lang/System" ∈ lw_tbl := jt1 (i := 15) rfl
theorem jofI {n : Nat} (h : n < 2147483648) : (Int32.ofNat n).toInt = (n : Int) := by
  rw [Int32.toInt_ofNat_of_lt (by simpa using h)]
theorem jofN {n : Nat} (h : n < 2147483648) : (Int32.ofNat n).toNatClampNeg = n := by
  show (Int32.ofNat n).toInt.toNat = n
  rw [jofI h]
  rfl
/-! the list: its array's length is the label's last number -/
theorem jinv {i : Int32} {n : Nat} (h0 : 0 ≤ i) (h : i.toNatClampNeg < n) : vp_in i n := by
  rintro (g | g)
  · exact absurd (jlt.mp g) (by have := jle.mp h0; omega)
  · omega
theorem ct_aC_init {I : jc_I} {O : jc_O} {live : jc_L → Prop} {x : Nat}  : jc_Ct y_aC_init [.inr (some (15, x, 0))] I O live (none, I, O, live, 0, 0) := by
  refine jc_Ct.ofF (by decide +kernel) (rfl) (Nat.le_of_ble_eq_true rfl) ?_
  refine jr_aload_n d_aC_init_0 rfl rfl ?_
  refine jr_objInit d_aC_init_1 l_aC_1 oi_i oi_c (Nat.le_of_ble_eq_true rfl) (Nat.le_of_ble_eq_true rfl) ?_
  exact jr_retX (v := none) d_aC_init_4 (by first | exact Nat.le_refl _ | exact Nat.zero_le _ | (dsimp only; omega)) (by first | exact Nat.le_refl _ | exact Nat.zero_le _ | (dsimp only; omega)) (by first | with_reducible rfl | (dsimp only; rfl; done) | (exfalso; grind)) (by first | with_reducible rfl | (dsimp only; rfl; done) | (exfalso; grind)) (by first | with_reducible rfl | (dsimp only; rfl; done) | (exfalso; grind)) (by first | with_reducible rfl | (dsimp only; rfl; done) | (exfalso; grind))
theorem ct_aB_init {I : jc_I} {O : jc_O} {live : jc_L → Prop} {x : Nat}  : jc_Ct y_aB_init [.inr (some (15, x, 0))] I O live (none, jc_up I (15, x, 0) 2 0, O, live, 0, 0) := by
  refine jc_Ct.ofF (by decide +kernel) (rfl) (Nat.le_of_ble_eq_true rfl) ?_
  refine jr_aload_n d_aB_init_0 rfl rfl ?_
  refine jv_I0v d_aB_init_1 l_aB_1 k_aC_init ⟨Nat.le_of_ble_eq_true rfl, Nat.le_of_ble_eq_true rfl⟩ (Nat.le_of_ble_eq_true rfl) (ct_aC_init) (by first | decide | (dsimp only; omega) | (dsimp only; grind)) (by first | decide | (dsimp only; omega) | (dsimp only; grind)) ?_
  refine jr_aload_n d_aB_init_4 rfl rfl ?_
  refine jr_iconst (v := 0) d_aB_init_5 (by decide) ?_
  refine jr_puti d_aB_init_6 f_aB_7 (Or.inl rfl) rfl ?_
  exact jr_retX (v := none) d_aB_init_9 (by first | exact Nat.le_refl _ | exact Nat.zero_le _ | (dsimp only; omega)) (by first | exact Nat.le_refl _ | exact Nat.zero_le _ | (dsimp only; omega)) (by first | with_reducible rfl | (dsimp only; rfl; done) | (exfalso; grind)) (by first | with_reducible rfl | (dsimp only; rfl; done) | (exfalso; grind)) (by first | with_reducible rfl | (dsimp only; rfl; done) | (exfalso; grind)) (by first | with_reducible rfl | (dsimp only; rfl; done) | (exfalso; grind))
theorem ct_aL_init {I : jc_I} {O : jc_O} {live : jc_L → Prop} {x : Nat}  : jc_Ct y_aL_init [.inr (some (15, x, 0))] I O live (none, jc_up I (15, x, 0) 2 0, jc_up O (15, x, 0) 0 (some (97, 0, 0)), live, 0, 0) := by
  refine jc_Ct.ofF (by decide +kernel) (rfl) (Nat.le_of_ble_eq_true rfl) ?_
  refine jr_aload_n d_aL_init_0 rfl rfl ?_
  refine jv_I0v d_aL_init_1 l_aL_1 k_aB_init ⟨Nat.le_of_ble_eq_true rfl, Nat.le_of_ble_eq_true rfl⟩ (Nat.le_of_ble_eq_true rfl) (ct_aB_init) (by first | decide | (dsimp only; omega) | (dsimp only; grind)) (by first | decide | (dsimp only; omega) | (dsimp only; grind)) ?_
  refine jr_aload_n d_aL_init_4 rfl rfl ?_
  refine jr_gets d_aL_init_5 g_aL_39 ?_
  refine jr_putr d_aL_init_8 f_aL_9 (Or.inl rfl) rfl rfl ?_
  exact jr_retX (v := none) d_aL_init_11 (by first | exact Nat.le_refl _ | exact Nat.zero_le _ | (dsimp only; omega)) (by first | exact Nat.le_refl _ | exact Nat.zero_le _ | (dsimp only; omega)) (by first | with_reducible rfl | (dsimp only; rfl; done) | (exfalso; grind)) (by first | with_reducible rfl | (dsimp only; rfl; done) | (exfalso; grind)) (by first | with_reducible rfl | (dsimp only; rfl; done) | (exfalso; grind)) (by first | with_reducible rfl | (dsimp only; rfl; done) | (exfalso; grind))
theorem ct_aL_size {I : jc_I} {O : jc_O} {live : jc_L → Prop} {x : Nat}  : jc_Ct y_aL_size [.inr (some (15, x, 0))] I O live (some (.inl (I (15, x, 0) 1)), I, O, live, 0, 0) := by
  refine jc_Ct.ofF (by decide +kernel) (Or.inl rfl) (Nat.le_of_ble_eq_true rfl) ?_
  refine jr_aload_n d_aL_size_0 rfl rfl ?_
  refine jr_geti d_aL_size_1 f_aL_48 rfl ?_
  exact jr_retX (v := some _) d_aL_size_4 (by first | exact Nat.le_refl _ | exact Nat.zero_le _ | (dsimp only; omega)) (by first | exact Nat.le_refl _ | exact Nat.zero_le _ | (dsimp only; omega)) (by first | with_reducible rfl | (dsimp only; rfl; done) | (exfalso; grind)) (by first | with_reducible rfl | (dsimp only; rfl; done) | (exfalso; grind)) (by first | with_reducible rfl | (dsimp only; rfl; done) | (exfalso; grind)) (by first | with_reducible rfl | (dsimp only; rfl; done) | (exfalso; grind))
theorem ct_aP_checkIndex {I : jc_I} {O : jc_O} {live : jc_L → Prop} {i n : Int32} {q : Option jc_L} (h0 : 0 ≤ i) (h1 : i < n) : jc_Ct y_aP_checkIndex [.inl i, .inl n, .inr q] I O live (some (.inl i), I, O, live, 0, 0) := by
  refine jc_Ct.ofF (by decide +kernel) (Or.inl rfl) (Nat.le_of_ble_eq_true rfl) ?_
  refine jr_iload_n d_aP_checkIndex_0 rfl rfl ?_
  refine jr_if_lt (tgt := 9) d_aP_checkIndex_1 (by decide) (fun c1 => ?_) (fun c1 => ?_)
  · skip
    exfalso; grind
  · skip
    refine jr_iload_n d_aP_checkIndex_4 rfl rfl ?_
    refine jr_iload_n d_aP_checkIndex_5 rfl rfl ?_
    refine jr_icmp_lt (tgt := 16) d_aP_checkIndex_6 (by decide) (fun c6 => ?_) (fun c6 => ?_)
    · skip
      refine jr_iload_n d_aP_checkIndex_16 rfl rfl ?_
      exact jr_retX (v := some _) d_aP_checkIndex_17 (by first | exact Nat.le_refl _ | exact Nat.zero_le _ | (dsimp only; omega)) (by first | exact Nat.le_refl _ | exact Nat.zero_le _ | (dsimp only; omega)) (by first | with_reducible rfl | (dsimp only; rfl; done) | (exfalso; grind)) (by first | with_reducible rfl | (dsimp only; rfl; done) | (exfalso; grind)) (by first | with_reducible rfl | (dsimp only; rfl; done) | (exfalso; grind)) (by first | with_reducible rfl | (dsimp only; rfl; done) | (exfalso; grind))
    · skip
      exfalso; grind
theorem ct_aO_checkIndex {I : jc_I} {O : jc_O} {live : jc_L → Prop} {i n : Int32} (h0 : 0 ≤ i) (h1 : i < n) : jc_Ct y_aO_checkIndex [.inl i, .inl n] I O live (some (.inl i), I, O, live, 0, 0) := by
  refine jc_Ct.ofF (by decide +kernel) (Or.inl rfl) (Nat.le_of_ble_eq_true rfl) ?_
  refine jr_iload_n d_aO_checkIndex_0 rfl rfl ?_
  refine jr_iload_n d_aO_checkIndex_1 rfl rfl ?_
  refine jr_null d_aO_checkIndex_2 ?_
  refine jv_S3r d_aO_checkIndex_3 l_aO_105 k_aP_checkIndex ⟨Nat.le_of_ble_eq_true rfl, Nat.le_of_ble_eq_true rfl⟩ (Nat.le_of_ble_eq_true rfl) (ct_aP_checkIndex h0 h1) (by first | decide | (dsimp only; omega) | (dsimp only; grind)) (by first | decide | (dsimp only; omega) | (dsimp only; grind)) ?_
  exact jr_retX (v := some _) d_aO_checkIndex_6 (by first | exact Nat.le_refl _ | exact Nat.zero_le _ | (dsimp only; omega)) (by first | exact Nat.le_refl _ | exact Nat.zero_le _ | (dsimp only; omega)) (by first | with_reducible rfl | (dsimp only; rfl; done) | (exfalso; grind)) (by first | with_reducible rfl | (dsimp only; rfl; done) | (exfalso; grind)) (by first | with_reducible rfl | (dsimp only; rfl; done) | (exfalso; grind)) (by first | with_reducible rfl | (dsimp only; rfl; done) | (exfalso; grind))
theorem ct_aL_elementData {I : jc_I} {O : jc_O} {live : jc_L → Prop} {x cap : Nat} {i : Int32} (h0 : O (15, x, 0) 0 = some (60, x, cap)) (hi : 0 ≤ i) (hc : i.toNatClampNeg < cap) : jc_Ct y_aL_elementData [.inr (some (15, x, 0)), .inl i] I O live (some (.inr (O (60, x, cap) i.toNatClampNeg)), I, O, live, 0, 0) := by
  refine jc_Ct.ofF (by decide +kernel) (Or.inl ⟨_, rfl⟩) (Nat.le_of_ble_eq_true rfl) ?_
  refine jr_aload_n d_aL_elementData_0 rfl rfl ?_
  refine jr_getr d_aL_elementData_1 f_aL_9 rfl rfl ?_
  first | rw [h0] | skip
  refine jr_iload_n d_aL_elementData_4 rfl rfl ?_
  refine jr_aald d_aL_elementData_5 rfl rfl rfl (jinv hi hc) ?_
  first | rw [h0] | skip
  exact jr_retX (v := some _) d_aL_elementData_6 (by first | exact Nat.le_refl _ | exact Nat.zero_le _ | (dsimp only; omega)) (by first | exact Nat.le_refl _ | exact Nat.zero_le _ | (dsimp only; omega)) (by first | with_reducible rfl | (dsimp only; rfl; done) | (exfalso; grind)) (by first | with_reducible rfl | (dsimp only; rfl; done) | (exfalso; grind)) (by first | with_reducible rfl | (dsimp only; rfl; done) | (exfalso; grind)) (by first | with_reducible rfl | (dsimp only; rfl; done) | (exfalso; grind))
theorem ct_aL_get {I : jc_I} {O : jc_O} {live : jc_L → Prop} {x cap : Nat} {i : Int32} (h0 : O (15, x, 0) 0 = some (60, x, cap)) (hi : 0 ≤ i) (hs : i < I (15, x, 0) 1) (hc : i.toNatClampNeg < cap) : jc_Ct y_aL_get [.inr (some (15, x, 0)), .inl i] I O live (some (.inr (O (60, x, cap) i.toNatClampNeg)), I, O, live, 0, 0) := by
  refine jc_Ct.ofF (by decide +kernel) (Or.inl ⟨_, rfl⟩) (Nat.le_of_ble_eq_true rfl) ?_
  refine jr_iload_n d_aL_get_0 rfl rfl ?_
  refine jr_aload_n d_aL_get_1 rfl rfl ?_
  refine jr_geti d_aL_get_2 f_aL_48 rfl ?_
  refine jv_S2r d_aL_get_5 l_aL_118 k_aO_checkIndex ⟨Nat.le_of_ble_eq_true rfl, Nat.le_of_ble_eq_true rfl⟩ (Nat.le_of_ble_eq_true rfl) (ct_aO_checkIndex hi hs) (by first | decide | (dsimp only; omega) | (dsimp only; grind)) (by first | decide | (dsimp only; omega) | (dsimp only; grind)) ?_
  refine jr_pop d_aL_get_8 ?_
  refine jr_aload_n d_aL_get_9 rfl rfl ?_
  refine jr_iload_n d_aL_get_10 rfl rfl ?_
  refine jv_V1r d_aL_get_11 l_aL_123 k_aL_elementData ⟨Nat.le_of_ble_eq_true rfl, Nat.le_of_ble_eq_true rfl⟩ rfl rfl (Nat.le_of_ble_eq_true rfl) (ct_aL_elementData h0 hi hc) (by first | decide | (dsimp only; omega) | (dsimp only; grind)) (by first | decide | (dsimp only; omega) | (dsimp only; grind)) ?_
  exact jr_retX (v := some _) d_aL_get_14 (by first | exact Nat.le_refl _ | exact Nat.zero_le _ | (dsimp only; omega)) (by first | exact Nat.le_refl _ | exact Nat.zero_le _ | (dsimp only; omega)) (by first | with_reducible rfl | (dsimp only; rfl; done) | (exfalso; grind)) (by first | with_reducible rfl | (dsimp only; rfl; done) | (exfalso; grind)) (by first | with_reducible rfl | (dsimp only; rfl; done) | (exfalso; grind)) (by first | with_reducible rfl | (dsimp only; rfl; done) | (exfalso; grind))
theorem ct_aS_newLength {I : jc_I} {O : jc_O} {live : jc_L → Prop} {a b c : Int32} (h1 : 0 < a + (if b < c then c else b)) (h2 : a + (if b < c then c else b) ≤ 2147483639) : jc_Ct y_aS_newLength [.inl a, .inl b, .inl c] I O live (some (.inl (a + (if b < c then c else b))), I, O, live, 0, 0) := by
  refine jc_Ct.ofF (by decide +kernel) (Or.inl rfl) (Nat.le_of_ble_eq_true rfl) ?_
  refine jr_iload_n d_aS_newLength_0 rfl rfl ?_
  refine jr_iload_n d_aS_newLength_1 rfl rfl ?_
  refine jr_iload_n d_aS_newLength_2 rfl rfl ?_
  refine jr_mmax d_aS_newLength_3 l_aS_194 (Nat.le_of_ble_eq_true rfl) (Nat.le_of_ble_eq_true rfl) (by grind) (by grind) ?_
  refine jr_iadd d_aS_newLength_6 ?_
  refine jr_istore_n d_aS_newLength_7 rfl (Nat.le_of_ble_eq_true rfl) ?_
  refine jr_iconst (v := 0) d_aS_newLength_8 (by decide) ?_
  refine jr_iload_n d_aS_newLength_9 rfl rfl ?_
  refine jr_icmp_ge (tgt := 21) d_aS_newLength_10 (by decide) (fun c10 => ?_) (fun c10 => ?_)
  · skip
    exfalso; grind
  · skip
    refine jr_iload_n d_aS_newLength_13 rfl rfl ?_
    refine jr_ldc d_aS_newLength_14 c_aS_200 ?_
    refine jr_icmp_gt (tgt := 21) d_aS_newLength_16 (by decide) (fun c16 => ?_) (fun c16 => ?_)
    · skip
      exfalso; grind
    · skip
      refine jr_iload_n d_aS_newLength_19 rfl rfl ?_
      exact jr_retX (v := some _) d_aS_newLength_20 (by first | exact Nat.le_refl _ | exact Nat.zero_le _ | (dsimp only; omega)) (by first | exact Nat.le_refl _ | exact Nat.zero_le _ | (dsimp only; omega)) (by first | with_reducible rfl | (dsimp only; rfl; done) | (exfalso; grind)) (by first | with_reducible rfl | (dsimp only; rfl; done) | (exfalso; grind)) (by first | with_reducible rfl | (dsimp only; rfl; done) | (exfalso; grind)) (by first | with_reducible rfl | (dsimp only; rfl; done) | (exfalso; grind))
theorem ct_aR_copyOf3 {I : jc_I} {O : jc_O} {live : jc_L → Prop} {x cap nc : Nat} (hcl : cap < 2147483648) (hlt : cap < nc) (hnc : nc ≤ 100000) (hf : ¬ live (60, x, nc)) (hel : ∀ i, i < cap → jc_sto "java/lang/Object" (O (60, x, cap) i)) : jc_Ct y_aR_copyOf3 [.inr (some (60, x, cap)), .inl (Int32.ofNat nc), .inr (some (98, 0, 0))] I O live (some (.inr (some (60, x, nc))), jc_cl I (60, x, nc) 0, jc_cp (jc_cl O (60, x, nc) none) (60, x, cap) (60, x, nc) cap, jadd (60, x, nc) live, 1, nc) := by
  have hmin : (if Int32.ofNat nc < Int32.ofNat cap then Int32.ofNat nc else Int32.ofNat cap) = Int32.ofNat cap := if_neg (by rw [jlt, jofI (by omega), jofI hcl]; omega)
  have hc0 : ¬ Int32.ofNat cap < 0 := by rw [jlt, jofI hcl, j0I]; omega
  refine jc_Ct.ofF (by decide +kernel) (Or.inr ⟨_, rfl⟩) (Nat.le_of_ble_eq_true rfl) ?_
  refine jr_aload_n d_aR_copyOf3_0 rfl rfl ?_
  refine jr_ldcM d_aR_copyOf3_1 c_aR_110 ?_
  refine jr_acmp_same (tgt := 13) d_aR_copyOf3_3 (by decide) ?_
  refine jr_iload_n d_aR_copyOf3_6 rfl rfl ?_
  refine jr_newq (N := nc) (60, x, nc) d_aR_copyOf3_7 c_aR_2 ao_oO rfl rfl rfl (hf) (by rw [jlt, jofI (by omega), j0I]; omega) (jofN (by omega)) (by omega) (by first | decide | (dsimp only; omega)) (by first | decide | (dsimp only; omega)) ?_
  refine jr_goto (tgt := 24) d_aR_copyOf3_10 (by decide) ?_
  refine jr_astore_n d_aR_copyOf3_24 rfl (Nat.le_of_ble_eq_true rfl) ?_
  refine jr_aload_n d_aR_copyOf3_25 rfl rfl ?_
  refine jr_iconst (v := 0) d_aR_copyOf3_26 (by decide) ?_
  refine jr_aload_n d_aR_copyOf3_27 rfl rfl ?_
  refine jr_iconst (v := 0) d_aR_copyOf3_28 (by decide) ?_
  refine jr_aload_n d_aR_copyOf3_29 rfl rfl ?_
  refine jr_alen d_aR_copyOf3_30 rfl rfl rfl ?_
  refine jr_iload_n d_aR_copyOf3_31 rfl rfl ?_
  refine jr_mmin d_aR_copyOf3_32 l_aR_304 (Nat.le_of_ble_eq_true rfl) (Nat.le_of_ble_eq_true rfl) (by grind) (by grind) ?_
  refine jr_copy (n0 := cap) (n1 := nc) (q0 := (60, x, cap)) (q1 := (60, x, nc)) d_aR_copyOf3_35 l_aR_150 wd_an wd_as wd_ai rfl rfl rfl rfl (by rw [hmin]; exact hc0) (by rw [hmin, jofN hcl]; exact Nat.le_refl _) (by rw [hmin, jofN hcl]; omega) (fun i hi => by rw [hmin, jofN hcl] at hi; have := hel i hi; unfold jc_cl; rw [if_neg (fun e => absurd (congrArg (fun q => q.2.2) e) (by dsimp only; omega))]; exact this) (Nat.le_of_ble_eq_true rfl) (Nat.le_of_ble_eq_true rfl) ?_
  refine jr_aload_n d_aR_copyOf3_38 rfl rfl ?_
  exact jr_retX (v := some _) d_aR_copyOf3_39 (by first | exact Nat.le_refl _ | exact Nat.zero_le _ | (dsimp only; omega) | (omega)) (by first | exact Nat.le_refl _ | exact Nat.zero_le _ | (dsimp only; omega) | (omega)) (by first | with_reducible rfl | (dsimp only; (rw [hmin, jofN hcl]); done) | (exfalso; grind)) (by first | with_reducible rfl | (dsimp only; (rw [hmin, jofN hcl]); done) | (exfalso; grind)) (by first | with_reducible rfl | (dsimp only; (rw [hmin, jofN hcl]); done) | (exfalso; grind)) (by first | with_reducible rfl | (dsimp only; (rw [hmin, jofN hcl]); done) | (exfalso; grind))
theorem ct_aR_copyOf2 {I : jc_I} {O : jc_O} {live : jc_L → Prop} {x cap nc : Nat} (hcl : cap < 2147483648) (hlt : cap < nc) (hnc : nc ≤ 100000) (hf : ¬ live (60, x, nc)) (hel : ∀ i, i < cap → jc_sto "java/lang/Object" (O (60, x, cap) i)) : jc_Ct y_aR_copyOf2 [.inr (some (60, x, cap)), .inl (Int32.ofNat nc)] I O live (some (.inr (some (60, x, nc))), jc_cl I (60, x, nc) 0, jc_cp (jc_cl O (60, x, nc) none) (60, x, cap) (60, x, nc) cap, jadd (60, x, nc) live, 1, nc) := by
  refine jc_Ct.ofF (by decide +kernel) (Or.inr ⟨_, rfl⟩) (Nat.le_of_ble_eq_true rfl) ?_
  refine jr_aload_n d_aR_copyOf2_0 rfl rfl ?_
  refine jr_iload_n d_aR_copyOf2_1 rfl rfl ?_
  refine jr_aload_n d_aR_copyOf2_2 rfl rfl ?_
  refine jr_getC d_aR_copyOf2_3 l_aR_86 wd_gd wd_gs wd_gi wd_gn rfl rfl (Nat.le_of_ble_eq_true rfl) (Nat.le_of_ble_eq_true rfl) ?_
  refine jv_S3rA d_aR_copyOf2_6 l_aR_300 k_aR_copyOf3 ⟨Nat.le_of_ble_eq_true rfl, Nat.le_of_ble_eq_true rfl⟩ (Nat.le_of_ble_eq_true rfl) (ct_aR_copyOf3 hcl hlt hnc hf hel) (fun q9 h9 => by first | exact Or.inr h9 | exact Or.inr (Or.inr h9) | (simp_all; done)) (by first | decide | (dsimp only; omega) | (dsimp only; grind) | (omega)) (by first | decide | (dsimp only; omega) | (dsimp only; grind) | (omega)) ?_
  exact jr_retX (v := some _) d_aR_copyOf2_9 (by first | exact Nat.le_refl _ | exact Nat.zero_le _ | (dsimp only; omega) | (omega)) (by first | exact Nat.le_refl _ | exact Nat.zero_le _ | (dsimp only; omega) | (omega)) (by first | with_reducible rfl | (dsimp only; rfl; done) | (exfalso; grind)) (by first | with_reducible rfl | (dsimp only; rfl; done) | (exfalso; grind)) (by first | with_reducible rfl | (dsimp only; rfl; done) | (exfalso; grind)) (by first | with_reducible rfl | (dsimp only; rfl; done) | (exfalso; grind))
