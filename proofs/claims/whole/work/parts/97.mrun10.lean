/-- what the second side's run answers -/
def rv (I : jc_I) (t b : Nat) : Int32 := if I (14, t, 0) 4 ≤ 0 then (if q_hu I t b = 0 then 0 else 3) else I (14, t, 0) 4
theorem rn_exit {I : jc_I} {O : jc_O} {live : jc_L → Prop} {t b w r nc ns : Nat} {x : Int32} {mcT msT : Nat} (hHU : jc_Ct y_m_isHeldUp [.inr (some (10, 0, 0)), .inr (some (14, t, 0))] I O live (some (.inl (q_hu I t b)), I, O, live, 0, 0)) (h1 : nc ≤ mcT) (h2 : ns ≤ msT) : jc_R y_m_run 120 [some (.inr (some (10, 0, 0))), some (.inl x), some (.inl (Int32.ofNat w)), some (.inr (some (14, t, 0))), some (.inl (Int32.ofNat r))] [] I O live nc ns (some (.inl (rv I t b)), I, O, live, mcT, msT) := by
  refine jr_aload_n d_m_run_120 rfl rfl ?_
  refine jr_geti d_m_run_121 f_m_163 rfl ?_
  refine jr_if_le (tgt := 134) d_m_run_124 (by decide) (fun c124 => ?_) (fun c124 => ?_)
  · skip
    refine jr_aload_n d_m_run_134 rfl rfl ?_
    refine jr_aload_n d_m_run_135 rfl rfl ?_
    refine jv_V1r d_m_run_136 l_m_166 k_m_isHeldUp ⟨Nat.le_of_ble_eq_true rfl, Nat.le_of_ble_eq_true rfl⟩ rfl rfl (Nat.le_of_ble_eq_true rfl) (hHU) (by first | decide | exact Nat.zero_le _ | (dsimp only; omega) | (dsimp only; grind) | (omega)) (by first | decide | exact Nat.zero_le _ | (dsimp only; omega) | (dsimp only; grind) | (omega)) ?_
    refine jr_if_eq (tgt := 146) d_m_run_139 (by decide) (fun c139 => ?_) (fun c139 => ?_)
    · skip
      rw [show rv I t b = 0 from (if_pos c124).trans (if_pos c139)]
      refine jr_iconst (v := 0) d_m_run_146 (by decide) ?_
      exact jr_retX (v := some _) d_m_run_147 (by first | exact Nat.le_refl _ | exact Nat.zero_le _ | (dsimp only; omega) | (omega)) (by first | exact Nat.le_refl _ | exact Nat.zero_le _ | (dsimp only; omega) | (omega)) (by first | with_reducible rfl | (dsimp only; rfl; done) | (rfl; done) | (exfalso; grind)) (by first | with_reducible rfl | (dsimp only; rfl; done) | (rfl; done) | (exfalso; grind)) (by first | with_reducible rfl | (dsimp only; rfl; done) | (rfl; done) | (exfalso; grind)) (by first | with_reducible rfl | (dsimp only; rfl; done) | (rfl; done) | (exfalso; grind))
    · skip
      rw [show rv I t b = 3 from (if_pos c124).trans (if_neg c139)]
      refine jr_iconst (v := 3) d_m_run_142 (by decide) ?_
      refine jr_goto (tgt := 147) d_m_run_143 (by decide) ?_
      exact jr_retX (v := some _) d_m_run_147 (by first | exact Nat.le_refl _ | exact Nat.zero_le _ | (dsimp only; omega) | (omega)) (by first | exact Nat.le_refl _ | exact Nat.zero_le _ | (dsimp only; omega) | (omega)) (by first | with_reducible rfl | (dsimp only; rfl; done) | (rfl; done) | (exfalso; grind)) (by first | with_reducible rfl | (dsimp only; rfl; done) | (rfl; done) | (exfalso; grind)) (by first | with_reducible rfl | (dsimp only; rfl; done) | (rfl; done) | (exfalso; grind)) (by first | with_reducible rfl | (dsimp only; rfl; done) | (rfl; done) | (exfalso; grind))
  · skip
    rw [show rv I t b = I (14, t, 0) 4 from if_neg c124]
    refine jr_aload_n d_m_run_127 rfl rfl ?_
    refine jr_geti d_m_run_128 f_m_163 rfl ?_
    refine jr_goto (tgt := 147) d_m_run_131 (by decide) ?_
    exact jr_retX (v := some _) d_m_run_147 (by first | exact Nat.le_refl _ | exact Nat.zero_le _ | (dsimp only; omega) | (omega)) (by first | exact Nat.le_refl _ | exact Nat.zero_le _ | (dsimp only; omega) | (omega)) (by first | with_reducible rfl | (dsimp only; rfl; done) | (rfl; done) | (exfalso; grind)) (by first | with_reducible rfl | (dsimp only; rfl; done) | (rfl; done) | (exfalso; grind)) (by first | with_reducible rfl | (dsimp only; rfl; done) | (rfl; done) | (exfalso; grind)) (by first | with_reducible rfl | (dsimp only; rfl; done) | (rfl; done) | (exfalso; grind))
theorem rn_out {I : jc_I} {O : jc_O} {live : jc_L → Prop} {t b w r nc ns : Nat} {x : Int32} {mcT msT : Nat} (hHU : jc_Ct y_m_isHeldUp [.inr (some (10, 0, 0)), .inr (some (14, t, 0))] I O live (some (.inl (q_hu I t b)), I, O, live, 0, 0)) (hr : r = w) (hw : w ≤ 10000) (h1 : nc ≤ mcT) (h2 : ns ≤ msT) : jc_R y_m_run 41 [some (.inr (some (10, 0, 0))), some (.inl x), some (.inl (Int32.ofNat w)), some (.inr (some (14, t, 0))), some (.inl (Int32.ofNat r))] [] I O live nc ns (some (.inl (rv I t b)), I, O, live, mcT, msT) := by
  refine jr_iload d_m_run_41 rfl ?_
  refine jr_iload_n d_m_run_43 rfl rfl ?_
  refine jr_icmp_ge (tgt := 120) d_m_run_44 (by decide) (fun c44 => ?_) (fun c44 => ?_)
  · skip
    exact rn_exit hHU h1 h2
  · skip
    exfalso; rw [jle, jofI (by omega), jofI (by omega)] at c44; omega
theorem rn_end {I : jc_I} {O : jc_O} {live : jc_L → Prop} {t b w r nc ns : Nat} {x : Int32} {mcT msT : Nat} (hHU : jc_Ct y_m_isHeldUp [.inr (some (10, 0, 0)), .inr (some (14, t, 0))] I O live (some (.inl (q_hu I t b)), I, O, live, 0, 0)) (hr : r < w) (hw : w ≤ 10000) (hE : I (14, t, 0) 4 ≠ 0 ∨ q_hu I t b ≠ 0) (h1 : nc ≤ mcT) (h2 : ns ≤ msT) : jc_R y_m_run 41 [some (.inr (some (10, 0, 0))), some (.inl x), some (.inl (Int32.ofNat w)), some (.inr (some (14, t, 0))), some (.inl (Int32.ofNat r))] [] I O live nc ns (some (.inl (rv I t b)), I, O, live, mcT, msT) := by
  refine jr_iload d_m_run_41 rfl ?_
  refine jr_iload_n d_m_run_43 rfl rfl ?_
  refine jr_icmp_ge (tgt := 120) d_m_run_44 (by decide) (fun c44 => ?_) (fun c44 => ?_)
  · skip
    exfalso; rw [jle, jofI (by omega), jofI (by omega)] at c44; omega
  · skip
    refine jr_aload_n d_m_run_47 rfl rfl ?_
    refine jr_geti d_m_run_48 f_m_163 rfl ?_
    refine jr_if_ne (tgt := 120) d_m_run_51 (by decide) (fun c51 => ?_) (fun c51 => ?_)
    · skip
      exact rn_exit hHU h1 h2
    · skip
      refine jr_aload_n d_m_run_54 rfl rfl ?_
      refine jr_aload_n d_m_run_55 rfl rfl ?_
      refine jv_V1r d_m_run_56 l_m_166 k_m_isHeldUp ⟨Nat.le_of_ble_eq_true rfl, Nat.le_of_ble_eq_true rfl⟩ rfl rfl (Nat.le_of_ble_eq_true rfl) (hHU) (by first | decide | exact Nat.zero_le _ | (dsimp only; omega) | (dsimp only; grind) | (omega)) (by first | decide | exact Nat.zero_le _ | (dsimp only; omega) | (dsimp only; grind) | (omega)) ?_
      refine jr_if_ne (tgt := 120) d_m_run_59 (by decide) (fun c59 => ?_) (fun c59 => ?_)
      · skip
        exact rn_exit hHU h1 h2
      · skip
        exfalso; rcases hE with g | g; exact g c51; exact g c59
theorem rn_full {I : jc_I} {O : jc_O} {live : jc_L → Prop} {t b w r nc ns : Nat} {x : Int32} {mcT msT : Nat} (hM : qM O) (hHU : jc_Ct y_m_isHeldUp [.inr (some (10, 0, 0)), .inr (some (14, t, 0))] I O live (some (.inl (q_hu I t b)), I, O, live, 0, 0)) (hr : r < w) (hw : w ≤ 10000) (hE : I (14, t, 0) 4 = 0) (hA : q_hu I t b = 0) (hF : 2000 ≤ I (15, 2, 0) 1 ∨ 40000 ≤ I (10, 0, 0) 5) (h1 : nc ≤ mcT) (h2 : ns ≤ msT) : jc_R y_m_run 41 [some (.inr (some (10, 0, 0))), some (.inl x), some (.inl (Int32.ofNat w)), some (.inr (some (14, t, 0))), some (.inl (Int32.ofNat r))] [] I O live nc ns (some (.inl (-12)), I, O, live, mcT, msT) := by
  refine jr_iload d_m_run_41 rfl ?_
  refine jr_iload_n d_m_run_43 rfl rfl ?_
  refine jr_icmp_ge (tgt := 120) d_m_run_44 (by decide) (fun c44 => ?_) (fun c44 => ?_)
  · skip
    exfalso; rw [jle, jofI (by omega), jofI (by omega)] at c44; omega
  · skip
    refine jr_aload_n d_m_run_47 rfl rfl ?_
    refine jr_geti d_m_run_48 f_m_163 rfl ?_
    refine jr_if_ne (tgt := 120) d_m_run_51 (by decide) (fun c51 => ?_) (fun c51 => ?_)
    · skip
      exact absurd hE c51
    · skip
      refine jr_aload_n d_m_run_54 rfl rfl ?_
      refine jr_aload_n d_m_run_55 rfl rfl ?_
      refine jv_V1r d_m_run_56 l_m_166 k_m_isHeldUp ⟨Nat.le_of_ble_eq_true rfl, Nat.le_of_ble_eq_true rfl⟩ rfl rfl (Nat.le_of_ble_eq_true rfl) (hHU) (by first | decide | exact Nat.zero_le _ | (dsimp only; omega) | (dsimp only; grind) | (omega)) (by first | decide | exact Nat.zero_le _ | (dsimp only; omega) | (dsimp only; grind) | (omega)) ?_
      refine jr_if_ne (tgt := 120) d_m_run_59 (by decide) (fun c59 => ?_) (fun c59 => ?_)
      · skip
        exact absurd hA c59
      · skip
        refine jr_aload_n d_m_run_62 rfl rfl ?_
        refine jr_getr d_m_run_63 f_m_19 rfl rfl ?_
        first | rw [hM.2.2.1] | rw [hM.2.1] | skip
        refine jv_V0r d_m_run_66 l_m_33 k_aL_size ⟨Nat.le_of_ble_eq_true rfl, Nat.le_of_ble_eq_true rfl⟩ rfl rfl (Nat.le_of_ble_eq_true rfl) (ct_aL_size) (by first | decide | exact Nat.zero_le _ | (dsimp only; omega) | (dsimp only; grind) | (omega)) (by first | decide | exact Nat.zero_le _ | (dsimp only; omega) | (dsimp only; grind) | (omega)) ?_
        refine jr_sipush (v := 2000) d_m_run_69 (by decide) ?_
        refine jr_icmp_ge (tgt := 84) d_m_run_72 (by decide) (fun c72 => ?_) (fun c72 => ?_)
        · skip
          refine jr_bipush (v := (-12)) d_m_run_84 (by decide) ?_
          exact jr_retX (v := some _) d_m_run_86 (by first | exact Nat.le_refl _ | exact Nat.zero_le _ | (dsimp only; omega) | (omega)) (by first | exact Nat.le_refl _ | exact Nat.zero_le _ | (dsimp only; omega) | (omega)) (by first | with_reducible rfl | (dsimp only; rfl; done) | (rfl; done) | (exfalso; grind)) (by first | with_reducible rfl | (dsimp only; rfl; done) | (rfl; done) | (exfalso; grind)) (by first | with_reducible rfl | (dsimp only; rfl; done) | (rfl; done) | (exfalso; grind)) (by first | with_reducible rfl | (dsimp only; rfl; done) | (rfl; done) | (exfalso; grind))
        · skip
          refine jr_aload_n d_m_run_75 rfl rfl ?_
          refine jr_geti d_m_run_76 f_m_170 rfl ?_
          refine jr_ldc d_m_run_79 c_m_173 ?_
          refine jr_icmp_lt (tgt := 87) d_m_run_81 (by decide) (fun c81 => ?_) (fun c81 => ?_)
          · skip
            exfalso; rcases hF with g | g; exact c72 g; (clear hHU; grind)
          · skip
            refine jr_bipush (v := (-12)) d_m_run_84 (by decide) ?_
            exact jr_retX (v := some _) d_m_run_86 (by first | exact Nat.le_refl _ | exact Nat.zero_le _ | (dsimp only; omega) | (omega)) (by first | exact Nat.le_refl _ | exact Nat.zero_le _ | (dsimp only; omega) | (omega)) (by first | with_reducible rfl | (dsimp only; rfl; done) | (rfl; done) | (exfalso; grind)) (by first | with_reducible rfl | (dsimp only; rfl; done) | (rfl; done) | (exfalso; grind)) (by first | with_reducible rfl | (dsimp only; rfl; done) | (rfl; done) | (exfalso; grind)) (by first | with_reducible rfl | (dsimp only; rfl; done) | (rfl; done) | (exfalso; grind))
theorem rn_wait {I : jc_I} {O : jc_O} {live : jc_L → Prop} {t b w r nc ns : Nat} {x : Int32} {Z : jc_Z} {I1 : jc_I} {O1 : jc_O} {live1 : jc_L → Prop} {mc ms : Nat} (hM : qM O) (hHU : jc_Ct y_m_isHeldUp [.inr (some (10, 0, 0)), .inr (some (14, t, 0))] I O live (some (.inl (q_hu I t b)), I, O, live, 0, 0)) (hr : r < w) (hw : w ≤ 10000) (hE : I (14, t, 0) 4 = 0) (hA : q_hu I t b = 0) (hF : ¬ (2000 ≤ I (15, 2, 0) 1 ∨ 40000 ≤ I (10, 0, 0) 5)) (hST : jc_Ct y_m_step [.inr (some (10, 0, 0)), .inr (some (14, t, 0))] (jc_up I (14, t, 0) 6 0) O live (none, I1, O1, live1, mc, ms)) (hlv : ∀ q, live q → live1 q) (hW : I1 (14, t, 0) 6 ≠ 0) (h1 : nc + mc ≤ Z.2.2.2.2.1) (h2 : ns + ms ≤ Z.2.2.2.2.2) (h : jc_R y_m_run 41 [some (.inr (some (10, 0, 0))), some (.inl x), some (.inl (Int32.ofNat w)), some (.inr (some (14, t, 0))), some (.inl (Int32.ofNat (r + 1)))] [] I1 O1 live1 (nc + mc) (ns + ms) Z) : jc_R y_m_run 41 [some (.inr (some (10, 0, 0))), some (.inl x), some (.inl (Int32.ofNat w)), some (.inr (some (14, t, 0))), some (.inl (Int32.ofNat r))] [] I O live nc ns Z := by
  refine jr_iload d_m_run_41 rfl ?_
  refine jr_iload_n d_m_run_43 rfl rfl ?_
  refine jr_icmp_ge (tgt := 120) d_m_run_44 (by decide) (fun c44 => ?_) (fun c44 => ?_)
  · skip
    exfalso; rw [jle, jofI (by omega), jofI (by omega)] at c44; omega
  · skip
    refine jr_aload_n d_m_run_47 rfl rfl ?_
    refine jr_geti d_m_run_48 f_m_163 rfl ?_
    refine jr_if_ne (tgt := 120) d_m_run_51 (by decide) (fun c51 => ?_) (fun c51 => ?_)
    · skip
      exact absurd hE c51
    · skip
      refine jr_aload_n d_m_run_54 rfl rfl ?_
      refine jr_aload_n d_m_run_55 rfl rfl ?_
      refine jv_V1r d_m_run_56 l_m_166 k_m_isHeldUp ⟨Nat.le_of_ble_eq_true rfl, Nat.le_of_ble_eq_true rfl⟩ rfl rfl (Nat.le_of_ble_eq_true rfl) (hHU) (by first | decide | exact Nat.zero_le _ | (dsimp only; omega) | (dsimp only; grind) | (omega)) (by first | decide | exact Nat.zero_le _ | (dsimp only; omega) | (dsimp only; grind) | (omega)) ?_
      refine jr_if_ne (tgt := 120) d_m_run_59 (by decide) (fun c59 => ?_) (fun c59 => ?_)
      · skip
        exact absurd hA c59
      · skip
        refine jr_aload_n d_m_run_62 rfl rfl ?_
        refine jr_getr d_m_run_63 f_m_19 rfl rfl ?_
        first | rw [hM.2.2.1] | rw [hM.2.1] | skip
        refine jv_V0r d_m_run_66 l_m_33 k_aL_size ⟨Nat.le_of_ble_eq_true rfl, Nat.le_of_ble_eq_true rfl⟩ rfl rfl (Nat.le_of_ble_eq_true rfl) (ct_aL_size) (by first | decide | exact Nat.zero_le _ | (dsimp only; omega) | (dsimp only; grind) | (omega)) (by first | decide | exact Nat.zero_le _ | (dsimp only; omega) | (dsimp only; grind) | (omega)) ?_
        refine jr_sipush (v := 2000) d_m_run_69 (by decide) ?_
        refine jr_icmp_ge (tgt := 84) d_m_run_72 (by decide) (fun c72 => ?_) (fun c72 => ?_)
        · skip
          exact absurd (Or.inl c72) hF
        · skip
          refine jr_aload_n d_m_run_75 rfl rfl ?_
          refine jr_geti d_m_run_76 f_m_170 rfl ?_
          refine jr_ldc d_m_run_79 c_m_173 ?_
          refine jr_icmp_lt (tgt := 87) d_m_run_81 (by decide) (fun c81 => ?_) (fun c81 => ?_)
          · skip
            refine jr_aload_n d_m_run_87 rfl rfl ?_
            refine jr_iconst (v := 0) d_m_run_88 (by decide) ?_
            refine jr_puti d_m_run_89 f_m_152 (Or.inl rfl) rfl ?_
            refine jr_aload_n d_m_run_92 rfl rfl ?_
            refine jr_aload_n d_m_run_93 rfl rfl ?_
            refine jv_V1vA d_m_run_94 l_m_174 k_m_step ⟨Nat.le_of_ble_eq_true rfl, Nat.le_of_ble_eq_true rfl⟩ rfl rfl (Nat.le_of_ble_eq_true rfl) (hST) hlv (by first | decide | exact Nat.zero_le _ | (dsimp only; omega) | (dsimp only; grind) | (omega)) (by first | decide | exact Nat.zero_le _ | (dsimp only; omega) | (dsimp only; grind) | (omega)) ?_
            refine jr_aload_n d_m_run_97 rfl rfl ?_
            refine jr_geti d_m_run_98 f_m_152 rfl ?_
            try simp only [jc_up_s, jc_up_k, jc_up_t, jc_cl_s, jc_cl_t, ne_eq, Nat.reduceEqDiff, not_false_eq_true, Nat.reduceAdd]
            refine jr_if_ne (tgt := 114) d_m_run_101 (by decide) (fun c101 => ?_) (fun c101 => ?_)
            · skip
              refine jr_iinc d_m_run_114 rfl jinc1 ?_
              refine jr_goto (tgt := 41) d_m_run_117 (by decide) ?_
              rw [← jof1 (by omega)] at h; exact h
            · skip
              exact absurd c101 hW
          · skip
            exfalso; apply hF; exact Or.inr (by clear hHU hST h hF; grind)
theorem rn_step {I : jc_I} {O : jc_O} {live : jc_L → Prop} {t b w r nc ns : Nat} {x : Int32} {Z : jc_Z} {I1 : jc_I} {O1 : jc_O} {live1 : jc_L → Prop} {mc ms : Nat} (hM : qM O) (hHU : jc_Ct y_m_isHeldUp [.inr (some (10, 0, 0)), .inr (some (14, t, 0))] I O live (some (.inl (q_hu I t b)), I, O, live, 0, 0)) (hr : r < w) (hw : w ≤ 10000) (hE : I (14, t, 0) 4 = 0) (hA : q_hu I t b = 0) (hF : ¬ (2000 ≤ I (15, 2, 0) 1 ∨ 40000 ≤ I (10, 0, 0) 5)) (hST : jc_Ct y_m_step [.inr (some (10, 0, 0)), .inr (some (14, t, 0))] (jc_up I (14, t, 0) 6 0) O live (none, I1, O1, live1, mc, ms)) (hlv : ∀ q, live q → live1 q) (hW : I1 (14, t, 0) 6 = 0) (h1 : nc + mc ≤ Z.2.2.2.2.1) (h2 : ns + ms ≤ Z.2.2.2.2.2) (h : jc_R y_m_run 41 [some (.inr (some (10, 0, 0))), some (.inl x), some (.inl (Int32.ofNat w)), some (.inr (some (14, t, 0))), some (.inl (Int32.ofNat (r + 1)))] [] (jc_up I1 (14, t, 0) 3 (I1 (14, t, 0) 3 + 1)) O1 live1 (nc + mc) (ns + ms) Z) : jc_R y_m_run 41 [some (.inr (some (10, 0, 0))), some (.inl x), some (.inl (Int32.ofNat w)), some (.inr (some (14, t, 0))), some (.inl (Int32.ofNat r))] [] I O live nc ns Z := by
  refine jr_iload d_m_run_41 rfl ?_
  refine jr_iload_n d_m_run_43 rfl rfl ?_
  refine jr_icmp_ge (tgt := 120) d_m_run_44 (by decide) (fun c44 => ?_) (fun c44 => ?_)
  · skip
    exfalso; rw [jle, jofI (by omega), jofI (by omega)] at c44; omega
  · skip
    refine jr_aload_n d_m_run_47 rfl rfl ?_
    refine jr_geti d_m_run_48 f_m_163 rfl ?_
    refine jr_if_ne (tgt := 120) d_m_run_51 (by decide) (fun c51 => ?_) (fun c51 => ?_)
    · skip
      exact absurd hE c51
    · skip
      refine jr_aload_n d_m_run_54 rfl rfl ?_
      refine jr_aload_n d_m_run_55 rfl rfl ?_
      refine jv_V1r d_m_run_56 l_m_166 k_m_isHeldUp ⟨Nat.le_of_ble_eq_true rfl, Nat.le_of_ble_eq_true rfl⟩ rfl rfl (Nat.le_of_ble_eq_true rfl) (hHU) (by first | decide | exact Nat.zero_le _ | (dsimp only; omega) | (dsimp only; grind) | (omega)) (by first | decide | exact Nat.zero_le _ | (dsimp only; omega) | (dsimp only; grind) | (omega)) ?_
      refine jr_if_ne (tgt := 120) d_m_run_59 (by decide) (fun c59 => ?_) (fun c59 => ?_)
      · skip
        exact absurd hA c59
      · skip
        refine jr_aload_n d_m_run_62 rfl rfl ?_
        refine jr_getr d_m_run_63 f_m_19 rfl rfl ?_
        first | rw [hM.2.2.1] | rw [hM.2.1] | skip
        refine jv_V0r d_m_run_66 l_m_33 k_aL_size ⟨Nat.le_of_ble_eq_true rfl, Nat.le_of_ble_eq_true rfl⟩ rfl rfl (Nat.le_of_ble_eq_true rfl) (ct_aL_size) (by first | decide | exact Nat.zero_le _ | (dsimp only; omega) | (dsimp only; grind) | (omega)) (by first | decide | exact Nat.zero_le _ | (dsimp only; omega) | (dsimp only; grind) | (omega)) ?_
        refine jr_sipush (v := 2000) d_m_run_69 (by decide) ?_
        refine jr_icmp_ge (tgt := 84) d_m_run_72 (by decide) (fun c72 => ?_) (fun c72 => ?_)
        · skip
          exact absurd (Or.inl c72) hF
        · skip
          refine jr_aload_n d_m_run_75 rfl rfl ?_
          refine jr_geti d_m_run_76 f_m_170 rfl ?_
          refine jr_ldc d_m_run_79 c_m_173 ?_
          refine jr_icmp_lt (tgt := 87) d_m_run_81 (by decide) (fun c81 => ?_) (fun c81 => ?_)
          · skip
            refine jr_aload_n d_m_run_87 rfl rfl ?_
            refine jr_iconst (v := 0) d_m_run_88 (by decide) ?_
            refine jr_puti d_m_run_89 f_m_152 (Or.inl rfl) rfl ?_
            refine jr_aload_n d_m_run_92 rfl rfl ?_
            refine jr_aload_n d_m_run_93 rfl rfl ?_
            refine jv_V1vA d_m_run_94 l_m_174 k_m_step ⟨Nat.le_of_ble_eq_true rfl, Nat.le_of_ble_eq_true rfl⟩ rfl rfl (Nat.le_of_ble_eq_true rfl) (hST) hlv (by first | decide | exact Nat.zero_le _ | (dsimp only; omega) | (dsimp only; grind) | (omega)) (by first | decide | exact Nat.zero_le _ | (dsimp only; omega) | (dsimp only; grind) | (omega)) ?_
            refine jr_aload_n d_m_run_97 rfl rfl ?_
            refine jr_geti d_m_run_98 f_m_152 rfl ?_
            try simp only [jc_up_s, jc_up_k, jc_up_t, jc_cl_s, jc_cl_t, ne_eq, Nat.reduceEqDiff, not_false_eq_true, Nat.reduceAdd]
            refine jr_if_ne (tgt := 114) d_m_run_101 (by decide) (fun c101 => ?_) (fun c101 => ?_)
            · skip
              exact absurd hW c101
            · skip
              refine jr_aload_n d_m_run_104 rfl rfl ?_
              refine jr_dup d_m_run_105 ?_
              refine jr_geti d_m_run_106 f_m_178 rfl ?_
              try simp only [jc_up_s, jc_up_k, jc_up_t, jc_cl_s, jc_cl_t, ne_eq, Nat.reduceEqDiff, not_false_eq_true, Nat.reduceAdd]
              refine jr_iconst (v := 1) d_m_run_109 (by decide) ?_
              refine jr_iadd d_m_run_110 ?_
              refine jr_puti d_m_run_111 f_m_178 (Or.inl rfl) rfl ?_
              refine jr_iinc d_m_run_114 rfl jinc1 ?_
              refine jr_goto (tgt := 41) d_m_run_117 (by decide) ?_
              rw [← jof1 (by omega)] at h; exact h
          · skip
            exfalso; apply hF; exact Or.inr (by clear hHU hST h hF; grind)
theorem ct_m_run_n {I : jc_I} {O : jc_O} {live : jc_L → Prop} {x w : Int32} (hM : qM O) (hx : ¬ ((0 ≤ x ∧ x < I (10, 0, 0) 3) ∧ (0 ≤ w ∧ w ≤ 10000))) : jc_Ct y_m_run [.inr (some (10, 0, 0)), .inl x, .inl w] I O live (some (.inl (-14)), I, O, live, 0, 0) := by
  refine jc_Ct.of (by decide +kernel) (Or.inl rfl) (Nat.le_of_ble_eq_true rfl) ?_
  refine jr_iload_n d_m_run_0 rfl rfl ?_
  refine jr_if_lt (tgt := 23) d_m_run_1 (by decide) (fun c1 => ?_) (fun c1 => ?_)
  · skip
    refine jr_bipush (v := (-14)) d_m_run_23 (by decide) ?_
    exact jr_retX (v := some _) d_m_run_25 (by first | exact Nat.le_refl _ | exact Nat.zero_le _ | (dsimp only; omega)) (by first | exact Nat.le_refl _ | exact Nat.zero_le _ | (dsimp only; omega)) (by first | with_reducible rfl | (dsimp only; rfl; done) | (rfl; done) | (exfalso; grind)) (by first | with_reducible rfl | (dsimp only; rfl; done) | (rfl; done) | (exfalso; grind)) (by first | with_reducible rfl | (dsimp only; rfl; done) | (rfl; done) | (exfalso; grind)) (by first | with_reducible rfl | (dsimp only; rfl; done) | (rfl; done) | (exfalso; grind))
  · skip
    refine jr_iload_n d_m_run_4 rfl rfl ?_
    refine jr_aload_n d_m_run_5 rfl rfl ?_
    refine jr_geti d_m_run_6 f_m_29 rfl ?_
    refine jr_icmp_ge (tgt := 23) d_m_run_9 (by decide) (fun c9 => ?_) (fun c9 => ?_)
    · skip
      refine jr_bipush (v := (-14)) d_m_run_23 (by decide) ?_
      exact jr_retX (v := some _) d_m_run_25 (by first | exact Nat.le_refl _ | exact Nat.zero_le _ | (dsimp only; omega)) (by first | exact Nat.le_refl _ | exact Nat.zero_le _ | (dsimp only; omega)) (by first | with_reducible rfl | (dsimp only; rfl; done) | (rfl; done) | (exfalso; grind)) (by first | with_reducible rfl | (dsimp only; rfl; done) | (rfl; done) | (exfalso; grind)) (by first | with_reducible rfl | (dsimp only; rfl; done) | (rfl; done) | (exfalso; grind)) (by first | with_reducible rfl | (dsimp only; rfl; done) | (rfl; done) | (exfalso; grind))
    · skip
      refine jr_iload_n d_m_run_12 rfl rfl ?_
      refine jr_if_lt (tgt := 23) d_m_run_13 (by decide) (fun c13 => ?_) (fun c13 => ?_)
      · skip
        refine jr_bipush (v := (-14)) d_m_run_23 (by decide) ?_
        exact jr_retX (v := some _) d_m_run_25 (by first | exact Nat.le_refl _ | exact Nat.zero_le _ | (dsimp only; omega)) (by first | exact Nat.le_refl _ | exact Nat.zero_le _ | (dsimp only; omega)) (by first | with_reducible rfl | (dsimp only; rfl; done) | (rfl; done) | (exfalso; grind)) (by first | with_reducible rfl | (dsimp only; rfl; done) | (rfl; done) | (exfalso; grind)) (by first | with_reducible rfl | (dsimp only; rfl; done) | (rfl; done) | (exfalso; grind)) (by first | with_reducible rfl | (dsimp only; rfl; done) | (rfl; done) | (exfalso; grind))
      · skip
        refine jr_iload_n d_m_run_16 rfl rfl ?_
        refine jr_sipush (v := 10000) d_m_run_17 (by decide) ?_
        refine jr_icmp_le (tgt := 26) d_m_run_20 (by decide) (fun c20 => ?_) (fun c20 => ?_)
        · skip
          exfalso; grind
        · skip
          refine jr_bipush (v := (-14)) d_m_run_23 (by decide) ?_
          exact jr_retX (v := some _) d_m_run_25 (by first | exact Nat.le_refl _ | exact Nat.zero_le _ | (dsimp only; omega)) (by first | exact Nat.le_refl _ | exact Nat.zero_le _ | (dsimp only; omega)) (by first | with_reducible rfl | (dsimp only; rfl; done) | (rfl; done) | (exfalso; grind)) (by first | with_reducible rfl | (dsimp only; rfl; done) | (rfl; done) | (exfalso; grind)) (by first | with_reducible rfl | (dsimp only; rfl; done) | (rfl; done) | (exfalso; grind)) (by first | with_reducible rfl | (dsimp only; rfl; done) | (rfl; done) | (exfalso; grind))
theorem ct_m_run_y {I : jc_I} {O : jc_O} {live : jc_L → Prop} {x : Int32} {t tn w mc ms : Nat} {v : Int32} {I1 : jc_I} {O1 : jc_O} {live1 : jc_L → Prop} (hM : qM O) (ht : ql I O live 1 tn qTh) (hx : x = Int32.ofNat t) (htn : t < tn) (hb : 0 ≤ x ∧ x < I (10, 0, 0) 3) (hw : w ≤ 10000) (h : jc_R y_m_run 41 [some (.inr (some (10, 0, 0))), some (.inl x), some (.inl (Int32.ofNat w)), some (.inr (some (14, t, 0))), some (.inl (Int32.ofNat 0))] [] I O live 0 0 (some (.inl v), I1, O1, live1, mc, ms)) : jc_Ct y_m_run [.inr (some (10, 0, 0)), .inl x, .inl (Int32.ofNat w)] I O live (some (.inl v), I1, O1, live1, mc, ms) := by
  have hw1 : (0 : Int32) ≤ Int32.ofNat w := by rw [jle, jofI (by omega), j0I]; omega
  have hw2 : Int32.ofNat w ≤ 10000 := by rw [jle, jofI (by omega), show (10000 : Int32).toInt = 10000 from by decide]; omega
  refine jc_Ct.of (by decide +kernel) (Or.inl rfl) (Nat.le_of_ble_eq_true rfl) ?_
  refine jr_iload_n d_m_run_0 rfl rfl ?_
  refine jr_if_lt (tgt := 23) d_m_run_1 (by decide) (fun c1 => ?_) (fun c1 => ?_)
  · skip
    exfalso; clear h; grind
  · skip
    refine jr_iload_n d_m_run_4 rfl rfl ?_
    refine jr_aload_n d_m_run_5 rfl rfl ?_
    refine jr_geti d_m_run_6 f_m_29 rfl ?_
    refine jr_icmp_ge (tgt := 23) d_m_run_9 (by decide) (fun c9 => ?_) (fun c9 => ?_)
    · skip
      exfalso; clear h; grind
    · skip
      refine jr_iload_n d_m_run_12 rfl rfl ?_
      refine jr_if_lt (tgt := 23) d_m_run_13 (by decide) (fun c13 => ?_) (fun c13 => ?_)
      · skip
        exfalso; clear h; grind
      · skip
        refine jr_iload_n d_m_run_16 rfl rfl ?_
        refine jr_sipush (v := 10000) d_m_run_17 (by decide) ?_
        refine jr_icmp_le (tgt := 26) d_m_run_20 (by decide) (fun c20 => ?_) (fun c20 => ?_)
        · skip
          refine jr_aload_n d_m_run_26 rfl rfl ?_
          refine jr_getr d_m_run_27 f_m_16 rfl rfl ?_
          first | rw [hM.2.2.1] | rw [hM.2.1] | skip
          refine jr_iload_n d_m_run_30 rfl rfl ?_
          refine jv_V1r d_m_run_31 l_m_126 k_aL_get ⟨Nat.le_of_ble_eq_true rfl, Nat.le_of_ble_eq_true rfl⟩ rfl rfl (Nat.le_of_ble_eq_true rfl) (ct_aL_getq ht hx htn) (by first | decide | exact Nat.zero_le _ | (dsimp only; omega) | (dsimp only; grind)) (by first | decide | exact Nat.zero_le _ | (dsimp only; omega) | (dsimp only; grind)) ?_
          first | rw [hM.2.2.1] | rw [hM.2.1] | skip
          refine jr_cast d_m_run_34 c_m_137 rfl ⟨_, rfl, ca_mT_mT⟩ ?_
          refine jr_astore_n d_m_run_37 rfl (Nat.le_of_ble_eq_true rfl) ?_
          refine jr_iconst (v := 0) d_m_run_38 (by decide) ?_
          refine jr_istore d_m_run_39 (Nat.le_of_ble_eq_true rfl) ?_
          exact h
        · skip
          exfalso; clear h; grind
