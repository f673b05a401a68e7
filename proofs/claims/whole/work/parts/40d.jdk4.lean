theorem jsh {n : Nat} (h : n < 2147483648) : (Int32.ofNat n >>> ((1 : Int32) &&& 31)).toInt = ((n / 2 : Nat) : Int) := by
  have e : ((1 : Int32) &&& 31) = 1 := by decide
  rw [e]
  have e2 : (Int32.ofNat n >>> (1 : Int32)).toInt = ((Int32.ofNat n).toBitVec.sshiftRight 1).toInt := by
    show ((Int32.ofNat n >>> (1 : Int32)).toBitVec).toInt = _
    rw [Int32.toBitVec_shiftRight]
    rfl
  rw [e2, BitVec.toInt_sshiftRight]
  have e3 : (Int32.ofNat n).toBitVec.toInt = (n : Int) := jofI h
  rw [e3]
  rw [Int.shiftRight_eq_div_pow]
  omega
theorem jof1 {n : Nat} (h : n < 2147483647) : Int32.ofNat n + 1 = Int32.ofNat (n + 1) := by
  apply Int32.toInt_inj.mp
  rw [jI1 (by rw [jlt, jofI (by omega)]; rw [show (2147483647 : Int32).toInt = 2147483647 from by decide]; omega), jofI (by omega), jofI (by omega)]
  omega
theorem jofs {n : Nat} (h : n < 2147483647) : Int32.ofNat (n + 1) - 1 = Int32.ofNat n := by
  apply Int32.toInt_inj.mp
  rw [jsub0 (by rw [jle, jofI (by omega), j0I]; omega), jofI (by omega), jofI (by omega)]
  omega
theorem jaddI {a b : Int32} (h1 : -1000000000 < a.toInt ∧ a.toInt < 1000000000) (h2 : -1000000000 < b.toInt ∧ b.toInt < 1000000000) : (a + b).toInt = a.toInt + b.toInt := by
  rw [Int32.toInt_add, Int.bmod_eq_of_le] <;> omega
theorem jsubI {a b : Int32} (h1 : -1000000000 < a.toInt ∧ a.toInt < 1000000000) (h2 : -1000000000 < b.toInt ∧ b.toInt < 1000000000) : (a - b).toInt = a.toInt - b.toInt := by
  rw [Int32.toInt_sub, Int.bmod_eq_of_le] <;> omega
/-- the next length -/
def lnc (cap : Nat) : Nat := cap + max 1 (cap / 2)
theorem jgrow {cap : Nat} (h : cap ≤ 50000) : Int32.ofNat cap + (if Int32.ofNat cap + 1 - Int32.ofNat cap < Int32.ofNat cap >>> ((1 : Int32) &&& 31) then Int32.ofNat cap >>> ((1 : Int32) &&& 31) else Int32.ofNat cap + 1 - Int32.ofNat cap) = Int32.ofNat (lnc cap) := by
  have e1 := jofI (n := cap) (by omega)
  have e2 := jsh (n := cap) (by omega)
  have e3 : Int32.ofNat cap + 1 - Int32.ofNat cap = 1 := by
    apply Int32.toInt_inj.mp
    rw [jsubI, jaddI, j1I, e1]
    · omega
    · rw [e1]; omega
    · rw [j1I]; omega
    · rw [jaddI, j1I, e1]
      · omega
      · rw [e1]; omega
      · rw [j1I]; omega
    · rw [e1]; omega
  rw [e3]
  unfold lnc
  apply Int32.toInt_inj.mp
  rw [jofI (by omega)]
  by_cases hlt : (1 : Int32) < Int32.ofNat cap >>> ((1 : Int32) &&& 31)
  · rw [if_pos hlt]
    rw [jlt, j1I, e2] at hlt
    rw [jaddI, e1, e2]
    · omega
    · rw [e1]; omega
    · rw [e2]; omega
  · rw [if_neg hlt]
    rw [jlt, j1I, e2] at hlt
    rw [jaddI, e1, j1I]
    · omega
    · rw [e1]; omega
    · rw [j1I]; omega
theorem ct_aL_grow1_E {I : jc_I} {O : jc_O} {live : jc_L → Prop} {x : Nat} {m : Int32} (h0 : O (15, x, 0) 0 = some (97, 0, 0)) (hm : m ≤ 10) (hf : ¬ live (60, x, 10)) : jc_Ct y_aL_grow1 [.inr (some (15, x, 0)), .inl m] I O live (some (.inr (some (60, x, 10))), jc_cl I (60, x, 10) 0, (jc_up (jc_cl O (60, x, 10) none) (15, x, 0) 0 (some (60, x, 10))), jadd (60, x, 10) live, 1, 10) := by
  have hmx : (if (10 : Int32) < m then m else 10) = 10 := if_neg (by grind)
  refine jc_Ct.ofF (by decide +kernel) (Or.inr ⟨_, rfl⟩) (Nat.le_of_ble_eq_true rfl) ?_
  refine jr_aload_n d_aL_grow1_0 rfl rfl ?_
  refine jr_getr d_aL_grow1_1 f_aL_9 rfl rfl ?_
  first | rw [h0] | skip
  refine jr_alen0 d_aL_grow1_4 ?_
  refine jr_istore_n d_aL_grow1_5 rfl (Nat.le_of_ble_eq_true rfl) ?_
  refine jr_iload_n d_aL_grow1_6 rfl rfl ?_
  refine jr_if_gt (tgt := 20) d_aL_grow1_7 (by decide) (fun c7 => ?_) (fun c7 => ?_)
  · skip
    exact absurd c7 (by decide)
  · skip
    refine jr_aload_n d_aL_grow1_10 rfl rfl ?_
    refine jr_getr d_aL_grow1_11 f_aL_9 rfl rfl ?_
    first | rw [h0] | skip
    refine jr_gets d_aL_grow1_14 g_aL_39 ?_
    refine jr_acmp_eq (tgt := 45) d_aL_grow1_17 (by decide) (by intro q9 e9; cases e9; simp) (by intro q9 e9; cases e9; simp) (fun c17 => ?_) (fun c17 => ?_)
    · skip
      refine jr_aload_n d_aL_grow1_45 rfl rfl ?_
      refine jr_bipush (v := 10) d_aL_grow1_46 (by decide) ?_
      refine jr_iload_n d_aL_grow1_48 rfl rfl ?_
      refine jr_mmax d_aL_grow1_49 l_aL_79 (Nat.le_of_ble_eq_true rfl) (Nat.le_of_ble_eq_true rfl) (by grind) (by grind) ?_
      refine jr_newq (N := 10) (60, x, 10) d_aL_grow1_52 c_aL_7 ao_oO rfl rfl rfl (hf) (by rw [hmx]; decide) (by rw [hmx]; decide) (by decide) (by first | decide | (dsimp only; omega)) (by first | decide | (dsimp only; omega)) ?_
      refine jr_dup_x1 d_aL_grow1_55 ?_
      refine jr_putr d_aL_grow1_56 f_aL_9 (Or.inl rfl) rfl rfl ?_
      exact jr_retX (v := some _) d_aL_grow1_59 (by first | exact Nat.le_refl _ | exact Nat.zero_le _ | (dsimp only; omega)) (by first | exact Nat.le_refl _ | exact Nat.zero_le _ | (dsimp only; omega)) (by first | with_reducible rfl | (dsimp only; rfl; done) | (exfalso; grind)) (by first | with_reducible rfl | (dsimp only; rfl; done) | (exfalso; grind)) (by first | with_reducible rfl | (dsimp only; rfl; done) | (exfalso; grind)) (by first | with_reducible rfl | (dsimp only; rfl; done) | (exfalso; grind))
    · skip
      exact absurd rfl c17
theorem ct_aL_grow1_C {I : jc_I} {O : jc_O} {live : jc_L → Prop} {x cap nc : Nat} {m : Int32} (h0 : O (15, x, 0) 0 = some (60, x, cap)) (hcp : 0 < cap) (hcl : cap ≤ 50000) (hlt : cap < nc) (hnc : nc ≤ 100000) (hf : ¬ live (60, x, nc)) (hel : ∀ i, i < cap → jc_sto "java/lang/Object" (O (60, x, cap) i)) (hn : Int32.ofNat cap + (if m - Int32.ofNat cap < Int32.ofNat cap >>> ((1 : Int32) &&& 31) then Int32.ofNat cap >>> ((1 : Int32) &&& 31) else m - Int32.ofNat cap) = Int32.ofNat nc) : jc_Ct y_aL_grow1 [.inr (some (15, x, 0)), .inl m] I O live (some (.inr (some (60, x, nc))), jc_cl I (60, x, nc) 0, (jc_up (jc_cp (jc_cl O (60, x, nc) none) (60, x, cap) (60, x, nc) cap) (15, x, 0) 0 (some (60, x, nc))), jadd (60, x, nc) live, 1, nc) := by
  have e1 := jofI (n := cap) (by omega)
  have e2 := jofI (n := nc) (by omega)
  refine jc_Ct.ofF (by decide +kernel) (Or.inr ⟨_, rfl⟩) (Nat.le_of_ble_eq_true rfl) ?_
  refine jr_aload_n d_aL_grow1_0 rfl rfl ?_
  refine jr_getr d_aL_grow1_1 f_aL_9 rfl rfl ?_
  first | rw [h0] | skip
  refine jr_alen d_aL_grow1_4 rfl rfl rfl ?_
  refine jr_istore_n d_aL_grow1_5 rfl (Nat.le_of_ble_eq_true rfl) ?_
  refine jr_iload_n d_aL_grow1_6 rfl rfl ?_
  refine jr_if_gt (tgt := 20) d_aL_grow1_7 (by decide) (fun c7 => ?_) (fun c7 => ?_)
  · skip
    refine jr_iload_n d_aL_grow1_20 rfl rfl ?_
    refine jr_iload_n d_aL_grow1_21 rfl rfl ?_
    refine jr_iload_n d_aL_grow1_22 rfl rfl ?_
    refine jr_isub d_aL_grow1_23 ?_
    refine jr_iload_n d_aL_grow1_24 rfl rfl ?_
    refine jr_iconst (v := 1) d_aL_grow1_25 (by decide) ?_
    refine jr_ishr d_aL_grow1_26 ?_
    refine jv_S3r d_aL_grow1_27 l_aL_73 k_aS_newLength ⟨Nat.le_of_ble_eq_true rfl, Nat.le_of_ble_eq_true rfl⟩ (Nat.le_of_ble_eq_true rfl) (ct_aS_newLength (by rw [hn, jlt, e2, j0I]; omega) (by rw [hn, jle, e2, show (2147483639 : Int32).toInt = 2147483639 from by decide]; omega)) (by first | decide | (dsimp only; omega) | (dsimp only; grind) | (omega)) (by first | decide | (dsimp only; omega) | (dsimp only; grind) | (omega)) ?_
    rw [hn]
    refine jr_istore_n d_aL_grow1_30 rfl (Nat.le_of_ble_eq_true rfl) ?_
    refine jr_aload_n d_aL_grow1_31 rfl rfl ?_
    refine jr_aload_n d_aL_grow1_32 rfl rfl ?_
    refine jr_getr d_aL_grow1_33 f_aL_9 rfl rfl ?_
    first | rw [h0] | skip
    refine jr_iload_n d_aL_grow1_36 rfl rfl ?_
    refine jv_S2rA d_aL_grow1_37 l_aL_66 k_aR_copyOf2 ⟨Nat.le_of_ble_eq_true rfl, Nat.le_of_ble_eq_true rfl⟩ (Nat.le_of_ble_eq_true rfl) (ct_aR_copyOf2 (by omega) hlt hnc hf hel) (fun q9 h9 => by first | exact Or.inr h9 | exact Or.inr (Or.inr h9) | (simp_all; done)) (by first | decide | (dsimp only; omega) | (dsimp only; grind) | (omega)) (by first | decide | (dsimp only; omega) | (dsimp only; grind) | (omega)) ?_
    first | rw [h0] | skip
    refine jr_dup_x1 d_aL_grow1_40 ?_
    refine jr_putr d_aL_grow1_41 f_aL_9 (Or.inl rfl) rfl rfl ?_
    exact jr_retX (v := some _) d_aL_grow1_44 (by first | exact Nat.le_refl _ | exact Nat.zero_le _ | (dsimp only; omega) | (omega)) (by first | exact Nat.le_refl _ | exact Nat.zero_le _ | (dsimp only; omega) | (omega)) (by first | with_reducible rfl | (dsimp only; rfl; done) | (exfalso; grind)) (by first | with_reducible rfl | (dsimp only; rfl; done) | (exfalso; grind)) (by first | with_reducible rfl | (dsimp only; rfl; done) | (exfalso; grind)) (by first | with_reducible rfl | (dsimp only; rfl; done) | (exfalso; grind))
  · skip
    exact absurd (by rw [jlt, j0I]; show _ < (Int32.ofNat cap).toInt; rw [e1]; omega) c7
theorem ct_aL_grow0_E {I : jc_I} {O : jc_O} {live : jc_L → Prop} {x : Nat} (h0 : O (15, x, 0) 0 = some (97, 0, 0)) (hm : I (15, x, 0) 1 = 0) (hf : ¬ live (60, x, 10)) : jc_Ct y_aL_grow0 [.inr (some (15, x, 0))] I O live (some (.inr (some (60, x, 10))), jc_cl I (60, x, 10) 0, (jc_up (jc_cl O (60, x, 10) none) (15, x, 0) 0 (some (60, x, 10))), jadd (60, x, 10) live, 1, 10) := by
  refine jc_Ct.ofF (by decide +kernel) (Or.inr ⟨_, rfl⟩) (Nat.le_of_ble_eq_true rfl) ?_
  refine jr_aload_n d_aL_grow0_0 rfl rfl ?_
  refine jr_aload_n d_aL_grow0_1 rfl rfl ?_
  refine jr_geti d_aL_grow0_2 f_aL_48 rfl ?_
  refine jr_iconst (v := 1) d_aL_grow0_5 (by decide) ?_
  refine jr_iadd d_aL_grow0_6 ?_
  refine jv_V1rA d_aL_grow0_7 l_aL_69 k_aL_grow1 ⟨Nat.le_of_ble_eq_true rfl, Nat.le_of_ble_eq_true rfl⟩ rfl rfl (Nat.le_of_ble_eq_true rfl) (ct_aL_grow1_E h0 (by rw [hm]; decide) hf) (fun q9 h9 => by first | exact Or.inr h9 | exact Or.inr (Or.inr h9) | (simp_all; done)) (by first | decide | (dsimp only; omega) | (dsimp only; grind)) (by first | decide | (dsimp only; omega) | (dsimp only; grind)) ?_
  exact jr_retX (v := some _) d_aL_grow0_10 (by first | exact Nat.le_refl _ | exact Nat.zero_le _ | (dsimp only; omega)) (by first | exact Nat.le_refl _ | exact Nat.zero_le _ | (dsimp only; omega)) (by first | with_reducible rfl | (dsimp only; rfl; done) | (exfalso; grind)) (by first | with_reducible rfl | (dsimp only; rfl; done) | (exfalso; grind)) (by first | with_reducible rfl | (dsimp only; rfl; done) | (exfalso; grind)) (by first | with_reducible rfl | (dsimp only; rfl; done) | (exfalso; grind))
theorem ct_aL_grow0_C {I : jc_I} {O : jc_O} {live : jc_L → Prop} {x cap nc : Nat} (h0 : O (15, x, 0) 0 = some (60, x, cap)) (hcp : 0 < cap) (hcl : cap ≤ 50000) (hlt : cap < nc) (hnc : nc ≤ 100000) (hf : ¬ live (60, x, nc)) (hel : ∀ i, i < cap → jc_sto "java/lang/Object" (O (60, x, cap) i)) (hm : I (15, x, 0) 1 = Int32.ofNat cap) (hn : lnc cap = nc) : jc_Ct y_aL_grow0 [.inr (some (15, x, 0))] I O live (some (.inr (some (60, x, nc))), jc_cl I (60, x, nc) 0, (jc_up (jc_cp (jc_cl O (60, x, nc) none) (60, x, cap) (60, x, nc) cap) (15, x, 0) 0 (some (60, x, nc))), jadd (60, x, nc) live, 1, nc) := by
  refine jc_Ct.ofF (by decide +kernel) (Or.inr ⟨_, rfl⟩) (Nat.le_of_ble_eq_true rfl) ?_
  refine jr_aload_n d_aL_grow0_0 rfl rfl ?_
  refine jr_aload_n d_aL_grow0_1 rfl rfl ?_
  refine jr_geti d_aL_grow0_2 f_aL_48 rfl ?_
  refine jr_iconst (v := 1) d_aL_grow0_5 (by decide) ?_
  refine jr_iadd d_aL_grow0_6 ?_
  refine jv_V1rA d_aL_grow0_7 l_aL_69 k_aL_grow1 ⟨Nat.le_of_ble_eq_true rfl, Nat.le_of_ble_eq_true rfl⟩ rfl rfl (Nat.le_of_ble_eq_true rfl) (ct_aL_grow1_C h0 hcp hcl hlt hnc hf hel (by rw [hm, ← hn]; exact jgrow hcl)) (fun q9 h9 => by first | exact Or.inr h9 | exact Or.inr (Or.inr h9) | (simp_all; done)) (by first | decide | (dsimp only; omega) | (dsimp only; grind) | (omega)) (by first | decide | (dsimp only; omega) | (dsimp only; grind) | (omega)) ?_
  exact jr_retX (v := some _) d_aL_grow0_10 (by first | exact Nat.le_refl _ | exact Nat.zero_le _ | (dsimp only; omega) | (omega)) (by first | exact Nat.le_refl _ | exact Nat.zero_le _ | (dsimp only; omega) | (omega)) (by first | with_reducible rfl | (dsimp only; rfl; done) | (exfalso; grind)) (by first | with_reducible rfl | (dsimp only; rfl; done) | (exfalso; grind)) (by first | with_reducible rfl | (dsimp only; rfl; done) | (exfalso; grind)) (by first | with_reducible rfl | (dsimp only; rfl; done) | (exfalso; grind))
theorem ct_aL_add3_S {I : jc_I} {O : jc_O} {live : jc_L → Prop} {x cap : Nat} {e : jc_L} {s : Int32} (hs : jc_sto "java/lang/Object" (some e)) (hp : 0 ≤ s) (hlt : s.toNatClampNeg < cap) (hcl : cap ≤ 100000) : jc_Ct y_aL_add3 [.inr (some (15, x, 0)), .inr (some e), .inr (some (60, x, cap)), .inl s] I O live (none, jc_up I (15, x, 0) 1 (s + 1), jc_up O (60, x, cap) s.toNatClampNeg (some e), live, 0, 0) := by
  refine jc_Ct.ofF (by decide +kernel) (rfl) (Nat.le_of_ble_eq_true rfl) ?_
  refine jr_iload_n d_aL_add3_0 rfl rfl ?_
  refine jr_aload_n d_aL_add3_1 rfl rfl ?_
  refine jr_alen d_aL_add3_2 rfl rfl rfl ?_
  refine jr_icmp_ne (tgt := 11) d_aL_add3_3 (by decide) (fun c3 => ?_) (fun c3 => ?_)
  · skip
    refine jr_aload_n d_aL_add3_11 rfl rfl ?_
    refine jr_iload_n d_aL_add3_12 rfl rfl ?_
    refine jr_aload_n d_aL_add3_13 rfl rfl ?_
    refine jr_aast d_aL_add3_14 rfl rfl rfl (jinv hp hlt) hs ?_
    refine jr_aload_n d_aL_add3_15 rfl rfl ?_
    refine jr_iload_n d_aL_add3_16 rfl rfl ?_
    refine jr_iconst (v := 1) d_aL_add3_17 (by decide) ?_
    refine jr_iadd d_aL_add3_18 ?_
    refine jr_puti d_aL_add3_19 f_aL_48 (Or.inl rfl) rfl ?_
    exact jr_retX (v := none) d_aL_add3_22 (by first | exact Nat.le_refl _ | exact Nat.zero_le _ | (dsimp only; omega)) (by first | exact Nat.le_refl _ | exact Nat.zero_le _ | (dsimp only; omega)) (by first | with_reducible rfl | (dsimp only; rfl; done) | (exfalso; grind)) (by first | with_reducible rfl | (dsimp only; rfl; done) | (exfalso; grind)) (by first | with_reducible rfl | (dsimp only; rfl; done) | (exfalso; grind)) (by first | with_reducible rfl | (dsimp only; rfl; done) | (exfalso; grind))
  · skip
    exfalso; have c3 : s = Int32.ofNat cap := c3; rw [c3, jofN (by omega)] at hlt; omega
theorem ct_aL_add3_E {I : jc_I} {O : jc_O} {live : jc_L → Prop} {x : Nat} {e : jc_L} {s : Int32} (hs : jc_sto "java/lang/Object" (some e)) (h0 : O (15, x, 0) 0 = some (97, 0, 0)) (hm : I (15, x, 0) 1 = 0) (hz : s = 0) (hf : ¬ live (60, x, 10)) : jc_Ct y_aL_add3 [.inr (some (15, x, 0)), .inr (some e), .inr (some (97, 0, 0)), .inl s] I O live (none, jc_up (jc_cl I (60, x, 10) 0) (15, x, 0) 1 (s + 1), jc_up (jc_up (jc_cl O (60, x, 10) none) (15, x, 0) 0 (some (60, x, 10))) (60, x, 10) s.toNatClampNeg (some e), jadd (60, x, 10) live, 1, 10) := by
  have h9 : (some (97, 0, 0) : Option jc_L) = some (97, 0, 0) := rfl
  refine jc_Ct.ofF (by decide +kernel) (rfl) (Nat.le_of_ble_eq_true rfl) ?_
  refine jr_iload_n d_aL_add3_0 rfl rfl ?_
  refine jr_aload_n d_aL_add3_1 rfl rfl ?_
  refine jr_alen0 d_aL_add3_2 ?_
  refine jr_icmp_ne (tgt := 11) d_aL_add3_3 (by decide) (fun c3 => ?_) (fun c3 => ?_)
  · skip
    exfalso; exact c3 hz
  · skip
    refine jr_aload_n d_aL_add3_6 rfl rfl ?_
    refine jv_V0rA d_aL_add3_7 l_aL_129 k_aL_grow0 ⟨Nat.le_of_ble_eq_true rfl, Nat.le_of_ble_eq_true rfl⟩ rfl rfl (Nat.le_of_ble_eq_true rfl) (ct_aL_grow0_E h0 hm hf) (fun q9 h9 => by first | exact Or.inr h9 | exact Or.inr (Or.inr h9) | (simp_all; done)) (by first | decide | (dsimp only; omega) | (dsimp only; grind)) (by first | decide | (dsimp only; omega) | (dsimp only; grind)) ?_
    refine jr_astore_n d_aL_add3_10 rfl (Nat.le_of_ble_eq_true rfl) ?_
    refine jr_aload_n d_aL_add3_11 rfl rfl ?_
    refine jr_iload_n d_aL_add3_12 rfl rfl ?_
    refine jr_aload_n d_aL_add3_13 rfl rfl ?_
    refine jr_aast d_aL_add3_14 rfl rfl rfl (jinv (by rw [hz]; decide) (by rw [hz]; show 0 < 10; decide)) hs ?_
    refine jr_aload_n d_aL_add3_15 rfl rfl ?_
    refine jr_iload_n d_aL_add3_16 rfl rfl ?_
    refine jr_iconst (v := 1) d_aL_add3_17 (by decide) ?_
    refine jr_iadd d_aL_add3_18 ?_
    refine jr_puti d_aL_add3_19 f_aL_48 (Or.inl rfl) rfl ?_
    exact jr_retX (v := none) d_aL_add3_22 (by first | exact Nat.le_refl _ | exact Nat.zero_le _ | (dsimp only; omega)) (by first | exact Nat.le_refl _ | exact Nat.zero_le _ | (dsimp only; omega)) (by first | with_reducible rfl | (dsimp only; rfl; done) | (exfalso; grind)) (by first | with_reducible rfl | (dsimp only; rfl; done) | (exfalso; grind)) (by first | with_reducible rfl | (dsimp only; rfl; done) | (exfalso; grind)) (by first | with_reducible rfl | (dsimp only; rfl; done) | (exfalso; grind))
theorem ct_aL_add3_C {I : jc_I} {O : jc_O} {live : jc_L → Prop} {x cap nc : Nat} {e : jc_L} {s : Int32} (hs : jc_sto "java/lang/Object" (some e)) (h0 : O (15, x, 0) 0 = some (60, x, cap)) (hcp : 0 < cap) (hcl : cap ≤ 50000) (hlt : cap < nc) (hnc : nc ≤ 100000) (hf : ¬ live (60, x, nc)) (hel : ∀ i, i < cap → jc_sto "java/lang/Object" (O (60, x, cap) i)) (hm : I (15, x, 0) 1 = Int32.ofNat cap) (hn : lnc cap = nc) (hz : s = Int32.ofNat cap) : jc_Ct y_aL_add3 [.inr (some (15, x, 0)), .inr (some e), .inr (some (60, x, cap)), .inl s] I O live (none, jc_up (jc_cl I (60, x, nc) 0) (15, x, 0) 1 (s + 1), jc_up (jc_up (jc_cp (jc_cl O (60, x, nc) none) (60, x, cap) (60, x, nc) cap) (15, x, 0) 0 (some (60, x, nc))) (60, x, nc) s.toNatClampNeg (some e), jadd (60, x, nc) live, 1, nc) := by
  refine jc_Ct.ofF (by decide +kernel) (rfl) (Nat.le_of_ble_eq_true rfl) ?_
  refine jr_iload_n d_aL_add3_0 rfl rfl ?_
  refine jr_aload_n d_aL_add3_1 rfl rfl ?_
  refine jr_alen d_aL_add3_2 rfl rfl rfl ?_
  refine jr_icmp_ne (tgt := 11) d_aL_add3_3 (by decide) (fun c3 => ?_) (fun c3 => ?_)
  · skip
    exfalso; exact c3 hz
  · skip
    refine jr_aload_n d_aL_add3_6 rfl rfl ?_
    refine jv_V0rA d_aL_add3_7 l_aL_129 k_aL_grow0 ⟨Nat.le_of_ble_eq_true rfl, Nat.le_of_ble_eq_true rfl⟩ rfl rfl (Nat.le_of_ble_eq_true rfl) (ct_aL_grow0_C h0 hcp hcl hlt hnc hf hel hm hn) (fun q9 h9 => by first | exact Or.inr h9 | exact Or.inr (Or.inr h9) | (simp_all; done)) (by first | decide | (dsimp only; omega) | (dsimp only; grind) | (omega)) (by first | decide | (dsimp only; omega) | (dsimp only; grind) | (omega)) ?_
    refine jr_astore_n d_aL_add3_10 rfl (Nat.le_of_ble_eq_true rfl) ?_
    refine jr_aload_n d_aL_add3_11 rfl rfl ?_
    refine jr_iload_n d_aL_add3_12 rfl rfl ?_
    refine jr_aload_n d_aL_add3_13 rfl rfl ?_
    refine jr_aast d_aL_add3_14 rfl rfl rfl (jinv (by rw [hz, jle, jofI (by omega), j0I]; omega) (by rw [hz, jofN (by omega)]; exact hlt)) hs ?_
    refine jr_aload_n d_aL_add3_15 rfl rfl ?_
    refine jr_iload_n d_aL_add3_16 rfl rfl ?_
    refine jr_iconst (v := 1) d_aL_add3_17 (by decide) ?_
    refine jr_iadd d_aL_add3_18 ?_
    refine jr_puti d_aL_add3_19 f_aL_48 (Or.inl rfl) rfl ?_
    exact jr_retX (v := none) d_aL_add3_22 (by first | exact Nat.le_refl _ | exact Nat.zero_le _ | (dsimp only; omega) | (omega)) (by first | exact Nat.le_refl _ | exact Nat.zero_le _ | (dsimp only; omega) | (omega)) (by first | with_reducible rfl | (dsimp only; rfl; done) | (exfalso; grind)) (by first | with_reducible rfl | (dsimp only; rfl; done) | (exfalso; grind)) (by first | with_reducible rfl | (dsimp only; rfl; done) | (exfalso; grind)) (by first | with_reducible rfl | (dsimp only; rfl; done) | (exfalso; grind))
theorem ct_aL_add1_S {I : jc_I} {O : jc_O} {live : jc_L → Prop} {x cap : Nat} {e : jc_L} (hs : jc_sto "java/lang/Object" (some e)) (h0 : O (15, x, 0) 0 = some (60, x, cap)) (hp : 0 ≤ I (15, x, 0) 1) (hlt : (I (15, x, 0) 1).toNatClampNeg < cap) (hcl : cap ≤ 100000) : jc_Ct y_aL_add1 [.inr (some (15, x, 0)), .inr (some e)] I O live (some (.inl 1), jc_up (jc_up I (15, x, 0) 2 (I (15, x, 0) 2 + 1)) (15, x, 0) 1 (I (15, x, 0) 1 + 1), jc_up O (60, x, cap) (I (15, x, 0) 1).toNatClampNeg (some e), live, 0, 0) := by
  refine jc_Ct.ofF (by decide +kernel) (Or.inr ⟨rfl, Or.inr rfl⟩) (Nat.le_of_ble_eq_true rfl) ?_
  refine jr_aload_n d_aL_add1_0 rfl rfl ?_
  refine jr_dup d_aL_add1_1 ?_
  refine jr_geti d_aL_add1_2 f_aL_63 rfl ?_
  refine jr_iconst (v := 1) d_aL_add1_5 (by decide) ?_
  refine jr_iadd d_aL_add1_6 ?_
  refine jr_puti d_aL_add1_7 f_aL_63 (Or.inl rfl) rfl ?_
  refine jr_aload_n d_aL_add1_10 rfl rfl ?_
  refine jr_aload_n d_aL_add1_11 rfl rfl ?_
  refine jr_aload_n d_aL_add1_12 rfl rfl ?_
  refine jr_getr d_aL_add1_13 f_aL_9 rfl rfl ?_
  try simp only [jc_up_s, jc_up_k, jc_up_t, jc_cl_s, jc_cl_t, ne_eq, Nat.reduceEqDiff, not_false_eq_true, Nat.reduceAdd]
  first | rw [h0] | skip
  refine jr_aload_n d_aL_add1_16 rfl rfl ?_
  refine jr_geti d_aL_add1_17 f_aL_48 rfl ?_
  try simp only [jc_up_s, jc_up_k, jc_up_t, jc_cl_s, jc_cl_t, ne_eq, Nat.reduceEqDiff, not_false_eq_true, Nat.reduceAdd]
  refine jv_V3v d_aL_add1_20 l_aL_131 k_aL_add3 ⟨Nat.le_of_ble_eq_true rfl, Nat.le_of_ble_eq_true rfl⟩ rfl rfl (Nat.le_of_ble_eq_true rfl) (ct_aL_add3_S hs hp hlt hcl) (by first | decide | (dsimp only; omega) | (dsimp only; grind)) (by first | decide | (dsimp only; omega) | (dsimp only; grind)) ?_
  refine jr_iconst (v := 1) d_aL_add1_23 (by decide) ?_
  exact jr_retX (v := some _) d_aL_add1_24 (by first | exact Nat.le_refl _ | exact Nat.zero_le _ | (dsimp only; omega)) (by first | exact Nat.le_refl _ | exact Nat.zero_le _ | (dsimp only; omega)) (by first | with_reducible rfl | (dsimp only; rfl; done) | (exfalso; grind)) (by first | with_reducible rfl | (dsimp only; rfl; done) | (exfalso; grind)) (by first | with_reducible rfl | (dsimp only; rfl; done) | (exfalso; grind)) (by first | with_reducible rfl | (dsimp only; rfl; done) | (exfalso; grind))
theorem ct_aL_add1_E {I : jc_I} {O : jc_O} {live : jc_L → Prop} {x : Nat} {e : jc_L} (hs : jc_sto "java/lang/Object" (some e)) (h0 : O (15, x, 0) 0 = some (97, 0, 0)) (hm : I (15, x, 0) 1 = 0) (hf : ¬ live (60, x, 10)) : jc_Ct y_aL_add1 [.inr (some (15, x, 0)), .inr (some e)] I O live (some (.inl 1), jc_up (jc_cl (jc_up I (15, x, 0) 2 (I (15, x, 0) 2 + 1)) (60, x, 10) 0) (15, x, 0) 1 (I (15, x, 0) 1 + 1), jc_up (jc_up (jc_cl O (60, x, 10) none) (15, x, 0) 0 (some (60, x, 10))) (60, x, 10) (I (15, x, 0) 1).toNatClampNeg (some e), jadd (60, x, 10) live, 1, 10) := by
  refine jc_Ct.ofF (by decide +kernel) (Or.inr ⟨rfl, Or.inr rfl⟩) (Nat.le_of_ble_eq_true rfl) ?_
  refine jr_aload_n d_aL_add1_0 rfl rfl ?_
  refine jr_dup d_aL_add1_1 ?_
  refine jr_geti d_aL_add1_2 f_aL_63 rfl ?_
  refine jr_iconst (v := 1) d_aL_add1_5 (by decide) ?_
  refine jr_iadd d_aL_add1_6 ?_
  refine jr_puti d_aL_add1_7 f_aL_63 (Or.inl rfl) rfl ?_
  refine jr_aload_n d_aL_add1_10 rfl rfl ?_
  refine jr_aload_n d_aL_add1_11 rfl rfl ?_
  refine jr_aload_n d_aL_add1_12 rfl rfl ?_
  refine jr_getr d_aL_add1_13 f_aL_9 rfl rfl ?_
  try simp only [jc_up_s, jc_up_k, jc_up_t, jc_cl_s, jc_cl_t, ne_eq, Nat.reduceEqDiff, not_false_eq_true, Nat.reduceAdd]
  first | rw [h0] | skip
  refine jr_aload_n d_aL_add1_16 rfl rfl ?_
  refine jr_geti d_aL_add1_17 f_aL_48 rfl ?_
  try simp only [jc_up_s, jc_up_k, jc_up_t, jc_cl_s, jc_cl_t, ne_eq, Nat.reduceEqDiff, not_false_eq_true, Nat.reduceAdd]
  refine jv_V3vA d_aL_add1_20 l_aL_131 k_aL_add3 ⟨Nat.le_of_ble_eq_true rfl, Nat.le_of_ble_eq_true rfl⟩ rfl rfl (Nat.le_of_ble_eq_true rfl) (ct_aL_add3_E hs h0 (by rw [jc_up_k _ _ _ _ _ _ (by decide)]; exact hm) hm hf) (fun q9 h9 => by first | exact Or.inr h9 | exact Or.inr (Or.inr h9) | (simp_all; done)) (by first | decide | (dsimp only; omega) | (dsimp only; grind)) (by first | decide | (dsimp only; omega) | (dsimp only; grind)) ?_
  refine jr_iconst (v := 1) d_aL_add1_23 (by decide) ?_
  exact jr_retX (v := some _) d_aL_add1_24 (by first | exact Nat.le_refl _ | exact Nat.zero_le _ | (dsimp only; omega)) (by first | exact Nat.le_refl _ | exact Nat.zero_le _ | (dsimp only; omega)) (by first | with_reducible rfl | (dsimp only; rfl; done) | (exfalso; grind)) (by first | with_reducible rfl | (dsimp only; rfl; done) | (exfalso; grind)) (by first | with_reducible rfl | (dsimp only; rfl; done) | (exfalso; grind)) (by first | with_reducible rfl | (dsimp only; rfl; done) | (exfalso; grind))
theorem ct_aL_add1_C {I : jc_I} {O : jc_O} {live : jc_L → Prop} {x cap nc : Nat} {e : jc_L} (hs : jc_sto "java/lang/Object" (some e)) (h0 : O (15, x, 0) 0 = some (60, x, cap)) (hcp : 0 < cap) (hcl : cap ≤ 50000) (hlt : cap < nc) (hnc : nc ≤ 100000) (hf : ¬ live (60, x, nc)) (hel : ∀ i, i < cap → jc_sto "java/lang/Object" (O (60, x, cap) i)) (hm : I (15, x, 0) 1 = Int32.ofNat cap) (hn : lnc cap = nc) : jc_Ct y_aL_add1 [.inr (some (15, x, 0)), .inr (some e)] I O live (some (.inl 1), jc_up (jc_cl (jc_up I (15, x, 0) 2 (I (15, x, 0) 2 + 1)) (60, x, nc) 0) (15, x, 0) 1 (I (15, x, 0) 1 + 1), jc_up (jc_up (jc_cp (jc_cl O (60, x, nc) none) (60, x, cap) (60, x, nc) cap) (15, x, 0) 0 (some (60, x, nc))) (60, x, nc) (I (15, x, 0) 1).toNatClampNeg (some e), jadd (60, x, nc) live, 1, nc) := by
  refine jc_Ct.ofF (by decide +kernel) (Or.inr ⟨rfl, Or.inr rfl⟩) (Nat.le_of_ble_eq_true rfl) ?_
  refine jr_aload_n d_aL_add1_0 rfl rfl ?_
  refine jr_dup d_aL_add1_1 ?_
  refine jr_geti d_aL_add1_2 f_aL_63 rfl ?_
  refine jr_iconst (v := 1) d_aL_add1_5 (by decide) ?_
  refine jr_iadd d_aL_add1_6 ?_
  refine jr_puti d_aL_add1_7 f_aL_63 (Or.inl rfl) rfl ?_
  refine jr_aload_n d_aL_add1_10 rfl rfl ?_
  refine jr_aload_n d_aL_add1_11 rfl rfl ?_
  refine jr_aload_n d_aL_add1_12 rfl rfl ?_
  refine jr_getr d_aL_add1_13 f_aL_9 rfl rfl ?_
  try simp only [jc_up_s, jc_up_k, jc_up_t, jc_cl_s, jc_cl_t, ne_eq, Nat.reduceEqDiff, not_false_eq_true, Nat.reduceAdd]
  first | rw [h0] | skip
  refine jr_aload_n d_aL_add1_16 rfl rfl ?_
  refine jr_geti d_aL_add1_17 f_aL_48 rfl ?_
  try simp only [jc_up_s, jc_up_k, jc_up_t, jc_cl_s, jc_cl_t, ne_eq, Nat.reduceEqDiff, not_false_eq_true, Nat.reduceAdd]
  refine jv_V3vA d_aL_add1_20 l_aL_131 k_aL_add3 ⟨Nat.le_of_ble_eq_true rfl, Nat.le_of_ble_eq_true rfl⟩ rfl rfl (Nat.le_of_ble_eq_true rfl) (ct_aL_add3_C hs h0 hcp hcl hlt hnc hf hel (by rw [jc_up_k _ _ _ _ _ _ (by decide)]; exact hm) hn hm) (fun q9 h9 => by first | exact Or.inr h9 | exact Or.inr (Or.inr h9) | (simp_all; done)) (by first | decide | (dsimp only; omega) | (dsimp only; grind) | (omega)) (by first | decide | (dsimp only; omega) | (dsimp only; grind) | (omega)) ?_
  refine jr_iconst (v := 1) d_aL_add1_23 (by decide) ?_
  exact jr_retX (v := some _) d_aL_add1_24 (by first | exact Nat.le_refl _ | exact Nat.zero_le _ | (dsimp only; omega) | (omega)) (by first | exact Nat.le_refl _ | exact Nat.zero_le _ | (dsimp only; omega) | (omega)) (by first | with_reducible rfl | (dsimp only; rfl; done) | (exfalso; grind)) (by first | with_reducible rfl | (dsimp only; rfl; done) | (exfalso; grind)) (by first | with_reducible rfl | (dsimp only; rfl; done) | (exfalso; grind)) (by first | with_reducible rfl | (dsimp only; rfl; done) | (exfalso; grind))
