/-- the frame on top, the object that keeps a thread, what it waits for, what run answers -/
def jT (J : jc_I) (t : Nat) : Nat := (J (9, t, 0) 2 - 1).toNatClampNeg
def oh (J : jc_I) (O : jc_O) (t : Nat) : Int32 := if J (9, t, 0) 2 = 0 then 0 else m_oha J t (jT J t) (cd O t (jT J t))
def aw (J : jc_I) (O : jc_O) (t : Nat) : Int32 := if J (9, t, 0) 6 = 0 then 0 else oh J O t
def av (J : jc_I) (O : jc_O) (t : Nat) : Int32 := if aw J O t = 0 then J (9, t, 0) 4 else 3
theorem adv_exit {J : jc_I} {O : jc_O} {live : jc_L → Prop} {t w r nc ns : Nat} {mcT msT : Nat} (hAW : jc_Ct y_M_awaitedBy [.inr (some (4, 0, 0)), .inr (some (9, t, 0))] J O live (some (.inl (aw J O t)), J, O, live, 0, 0)) (h1 : nc ≤ mcT) (h2 : ns ≤ msT) : jc_R y_M_advance 61 [some (.inr (some (4, 0, 0))), some (.inr (some (9, t, 0))), some (.inl (Int32.ofNat w)), some (.inl (Int32.ofNat r))] [] J O live nc ns (some (.inl (av J O t)), J, O, live, mcT, msT) := by
  refine jr_aload_n d_M_advance_61 rfl rfl ?_
  refine jr_aload_n d_M_advance_62 rfl rfl ?_
  refine jv_V1r d_M_advance_63 l_M_64 k_M_awaitedBy ⟨Nat.le_of_ble_eq_true rfl, Nat.le_of_ble_eq_true rfl⟩ rfl rfl (Nat.le_of_ble_eq_true rfl) (hAW) (by first | decide | exact Nat.zero_le _ | (dsimp only; omega) | (dsimp only; grind) | (omega)) (by first | decide | exact Nat.zero_le _ | (dsimp only; omega) | (dsimp only; grind) | (omega)) ?_
  refine jr_if_eq (tgt := 73) d_M_advance_66 (by decide) (fun c66 => ?_) (fun c66 => ?_)
  · skip
    rw [show av J O t = J (9, t, 0) 4 from if_pos c66]
    refine jr_aload_n d_M_advance_73 rfl rfl ?_
    refine jv_V0r d_M_advance_74 l_M_83 k_S_state ⟨Nat.le_of_ble_eq_true rfl, Nat.le_of_ble_eq_true rfl⟩ rfl rfl (Nat.le_of_ble_eq_true rfl) (ct_S_state) (by first | decide | exact Nat.zero_le _ | (dsimp only; omega) | (dsimp only; grind) | (omega)) (by first | decide | exact Nat.zero_le _ | (dsimp only; omega) | (dsimp only; grind) | (omega)) ?_
    exact jr_retX (v := some _) d_M_advance_77 (by first | exact Nat.le_refl _ | exact Nat.zero_le _ | (dsimp only; omega) | (omega)) (by first | exact Nat.le_refl _ | exact Nat.zero_le _ | (dsimp only; omega) | (omega)) (by first | with_reducible rfl | (dsimp only; rfl; done) | (rfl; done) | (exfalso; grind)) (by first | with_reducible rfl | (dsimp only; rfl; done) | (rfl; done) | (exfalso; grind)) (by first | with_reducible rfl | (dsimp only; rfl; done) | (rfl; done) | (exfalso; grind)) (by first | with_reducible rfl | (dsimp only; rfl; done) | (rfl; done) | (exfalso; grind))
  · skip
    rw [show av J O t = 3 from if_neg c66]
    refine jr_iconst (v := 3) d_M_advance_69 (by decide) ?_
    refine jr_goto (tgt := 77) d_M_advance_70 (by decide) ?_
    exact jr_retX (v := some _) d_M_advance_77 (by first | exact Nat.le_refl _ | exact Nat.zero_le _ | (dsimp only; omega) | (omega)) (by first | exact Nat.le_refl _ | exact Nat.zero_le _ | (dsimp only; omega) | (omega)) (by first | with_reducible rfl | (dsimp only; rfl; done) | (rfl; done) | (exfalso; grind)) (by first | with_reducible rfl | (dsimp only; rfl; done) | (rfl; done) | (exfalso; grind)) (by first | with_reducible rfl | (dsimp only; rfl; done) | (rfl; done) | (exfalso; grind)) (by first | with_reducible rfl | (dsimp only; rfl; done) | (rfl; done) | (exfalso; grind))
theorem adv_out {J : jc_I} {O : jc_O} {live : jc_L → Prop} {t w r nc ns : Nat} {mcT msT : Nat} (hAW : jc_Ct y_M_awaitedBy [.inr (some (4, 0, 0)), .inr (some (9, t, 0))] J O live (some (.inl (aw J O t)), J, O, live, 0, 0)) (hr : r = w) (hw : w ≤ 10000) (h1 : nc ≤ mcT) (h2 : ns ≤ msT) : jc_R y_M_advance 2 [some (.inr (some (4, 0, 0))), some (.inr (some (9, t, 0))), some (.inl (Int32.ofNat w)), some (.inl (Int32.ofNat r))] [] J O live nc ns (some (.inl (av J O t)), J, O, live, mcT, msT) := by
  refine jr_iload_n d_M_advance_2 rfl rfl ?_
  refine jr_iload_n d_M_advance_3 rfl rfl ?_
  refine jr_icmp_ge (tgt := 61) d_M_advance_4 (by decide) (fun c4 => ?_) (fun c4 => ?_)
  · skip
    exact adv_exit hAW h1 h2
  · skip
    exfalso; rw [jle, jofI (by omega), jofI (by omega)] at c4; omega
theorem adv_end {J : jc_I} {O : jc_O} {live : jc_L → Prop} {t w r nc ns : Nat} {mcT msT : Nat} (hAW : jc_Ct y_M_awaitedBy [.inr (some (4, 0, 0)), .inr (some (9, t, 0))] J O live (some (.inl (aw J O t)), J, O, live, 0, 0)) (hr : r < w) (hw : w ≤ 10000) (hE : (J (9, t, 0) 4 = 1 ∨ J (9, t, 0) 4 = 2) ∨ aw J O t ≠ 0) (h1 : nc ≤ mcT) (h2 : ns ≤ msT) : jc_R y_M_advance 2 [some (.inr (some (4, 0, 0))), some (.inr (some (9, t, 0))), some (.inl (Int32.ofNat w)), some (.inl (Int32.ofNat r))] [] J O live nc ns (some (.inl (av J O t)), J, O, live, mcT, msT) := by
  refine jr_iload_n d_M_advance_2 rfl rfl ?_
  refine jr_iload_n d_M_advance_3 rfl rfl ?_
  refine jr_icmp_ge (tgt := 61) d_M_advance_4 (by decide) (fun c4 => ?_) (fun c4 => ?_)
  · skip
    exfalso; rw [jle, jofI (by omega), jofI (by omega)] at c4; omega
  · skip
    refine jr_aload_n d_M_advance_7 rfl rfl ?_
    refine jv_V0r d_M_advance_8 l_M_60 k_S_hasEnded ⟨Nat.le_of_ble_eq_true rfl, Nat.le_of_ble_eq_true rfl⟩ rfl rfl (Nat.le_of_ble_eq_true rfl) (ct_S_hasEnded) (by first | decide | exact Nat.zero_le _ | (dsimp only; omega) | (dsimp only; grind) | (omega)) (by first | decide | exact Nat.zero_le _ | (dsimp only; omega) | (dsimp only; grind) | (omega)) ?_
    refine jr_if_ne (tgt := 61) d_M_advance_11 (by decide) (fun c11 => ?_) (fun c11 => ?_)
    · skip
      exact adv_exit hAW h1 h2
    · skip
      refine jr_aload_n d_M_advance_14 rfl rfl ?_
      refine jr_aload_n d_M_advance_15 rfl rfl ?_
      refine jv_V1r d_M_advance_16 l_M_64 k_M_awaitedBy ⟨Nat.le_of_ble_eq_true rfl, Nat.le_of_ble_eq_true rfl⟩ rfl rfl (Nat.le_of_ble_eq_true rfl) (hAW) (by first | decide | exact Nat.zero_le _ | (dsimp only; omega) | (dsimp only; grind) | (omega)) (by first | decide | exact Nat.zero_le _ | (dsimp only; omega) | (dsimp only; grind) | (omega)) ?_
      refine jr_if_ne (tgt := 61) d_M_advance_19 (by decide) (fun c19 => ?_) (fun c19 => ?_)
      · skip
        exact adv_exit hAW h1 h2
      · skip
        exfalso; rcases hE with g | g; (rw [if_pos g] at c11; exact absurd c11 (by decide)); exact g c19
theorem adv_full {J : jc_I} {O : jc_O} {live : jc_L → Prop} {t w r nc ns : Nat} {mcT msT : Nat} (hM : jw_M O) (hAW : jc_Ct y_M_awaitedBy [.inr (some (4, 0, 0)), .inr (some (9, t, 0))] J O live (some (.inl (aw J O t)), J, O, live, 0, 0)) (hr : r < w) (hw : w ≤ 10000) (hE : ¬ (J (9, t, 0) 4 = 1 ∨ J (9, t, 0) 4 = 2)) (hA : aw J O t = 0) (hF : 2000 ≤ J (3, 0, 0) 2 ∨ 40000 ≤ J (3, 0, 0) 3) (h1 : nc ≤ mcT) (h2 : ns ≤ msT) : jc_R y_M_advance 2 [some (.inr (some (4, 0, 0))), some (.inr (some (9, t, 0))), some (.inl (Int32.ofNat w)), some (.inl (Int32.ofNat r))] [] J O live nc ns (some (.inl (-12)), J, O, live, mcT, msT) := by
  refine jr_iload_n d_M_advance_2 rfl rfl ?_
  refine jr_iload_n d_M_advance_3 rfl rfl ?_
  refine jr_icmp_ge (tgt := 61) d_M_advance_4 (by decide) (fun c4 => ?_) (fun c4 => ?_)
  · skip
    exfalso; rw [jle, jofI (by omega), jofI (by omega)] at c4; omega
  · skip
    refine jr_aload_n d_M_advance_7 rfl rfl ?_
    refine jv_V0r d_M_advance_8 l_M_60 k_S_hasEnded ⟨Nat.le_of_ble_eq_true rfl, Nat.le_of_ble_eq_true rfl⟩ rfl rfl (Nat.le_of_ble_eq_true rfl) (ct_S_hasEnded) (by first | decide | exact Nat.zero_le _ | (dsimp only; omega) | (dsimp only; grind) | (omega)) (by first | decide | exact Nat.zero_le _ | (dsimp only; omega) | (dsimp only; grind) | (omega)) ?_
    refine jr_if_ne (tgt := 61) d_M_advance_11 (by decide) (fun c11 => ?_) (fun c11 => ?_)
    · skip
      exact absurd (if_neg hE) c11
    · skip
      refine jr_aload_n d_M_advance_14 rfl rfl ?_
      refine jr_aload_n d_M_advance_15 rfl rfl ?_
      refine jv_V1r d_M_advance_16 l_M_64 k_M_awaitedBy ⟨Nat.le_of_ble_eq_true rfl, Nat.le_of_ble_eq_true rfl⟩ rfl rfl (Nat.le_of_ble_eq_true rfl) (hAW) (by first | decide | exact Nat.zero_le _ | (dsimp only; omega) | (dsimp only; grind) | (omega)) (by first | decide | exact Nat.zero_le _ | (dsimp only; omega) | (dsimp only; grind) | (omega)) ?_
      refine jr_if_ne (tgt := 61) d_M_advance_19 (by decide) (fun c19 => ?_) (fun c19 => ?_)
      · skip
        exact absurd hA c19
      · skip
        refine jr_aload_n d_M_advance_22 rfl rfl ?_
        refine jr_getr d_M_advance_23 f_M_25 rfl rfl ?_
        first | rw [hM.2.2.1] | skip
        refine jv_V0r d_M_advance_26 l_M_68 k_H_isFull ⟨Nat.le_of_ble_eq_true rfl, Nat.le_of_ble_eq_true rfl⟩ rfl rfl (Nat.le_of_ble_eq_true rfl) (ct_H_isFull) (by first | decide | exact Nat.zero_le _ | (dsimp only; omega) | (dsimp only; grind) | (omega)) (by first | decide | exact Nat.zero_le _ | (dsimp only; omega) | (dsimp only; grind) | (omega)) ?_
        refine jr_if_eq (tgt := 35) d_M_advance_29 (by decide) (fun c29 => ?_) (fun c29 => ?_)
        · skip
          exfalso; rw [if_pos hF] at c29; exact absurd c29 (by decide)
        · skip
          refine jr_bipush (v := (-12)) d_M_advance_32 (by decide) ?_
          exact jr_retX (v := some _) d_M_advance_34 (by first | exact Nat.le_refl _ | exact Nat.zero_le _ | (dsimp only; omega) | (omega)) (by first | exact Nat.le_refl _ | exact Nat.zero_le _ | (dsimp only; omega) | (omega)) (by first | with_reducible rfl | (dsimp only; rfl; done) | (rfl; done) | (exfalso; grind)) (by first | with_reducible rfl | (dsimp only; rfl; done) | (rfl; done) | (exfalso; grind)) (by first | with_reducible rfl | (dsimp only; rfl; done) | (rfl; done) | (exfalso; grind)) (by first | with_reducible rfl | (dsimp only; rfl; done) | (rfl; done) | (exfalso; grind))
theorem adv_stop {J : jc_I} {O : jc_O} {live : jc_L → Prop} {t w r nc ns : Nat} {Z : jc_Z} (hM : jw_M O) (hAW : jc_Ct y_M_awaitedBy [.inr (some (4, 0, 0)), .inr (some (9, t, 0))] J O live (some (.inl (aw J O t)), J, O, live, 0, 0)) (hOH : jc_Ct y_M_objectHeldAgainst [.inr (some (4, 0, 0)), .inr (some (9, t, 0))] J O live (some (.inl (oh J O t)), J, O, live, 0, 0)) (hr : r < w) (hw : w ≤ 10000) (hE : ¬ (J (9, t, 0) 4 = 1 ∨ J (9, t, 0) 4 = 2)) (hA : aw J O t = 0) (hF : ¬ (2000 ≤ J (3, 0, 0) 2 ∨ 40000 ≤ J (3, 0, 0) 3)) (hO : oh J O t ≠ 0) (h1 : nc ≤ Z.2.2.2.2.1) (h2 : ns ≤ Z.2.2.2.2.2) (h : jc_R y_M_advance 2 [some (.inr (some (4, 0, 0))), some (.inr (some (9, t, 0))), some (.inl (Int32.ofNat w)), some (.inl (Int32.ofNat (r + 1)))] [] (jc_up J (9, t, 0) 6 1) O live nc ns Z) : jc_R y_M_advance 2 [some (.inr (some (4, 0, 0))), some (.inr (some (9, t, 0))), some (.inl (Int32.ofNat w)), some (.inl (Int32.ofNat r))] [] J O live nc ns Z := by
  refine jr_iload_n d_M_advance_2 rfl rfl ?_
  refine jr_iload_n d_M_advance_3 rfl rfl ?_
  refine jr_icmp_ge (tgt := 61) d_M_advance_4 (by decide) (fun c4 => ?_) (fun c4 => ?_)
  · skip
    exfalso; rw [jle, jofI (by omega), jofI (by omega)] at c4; omega
  · skip
    refine jr_aload_n d_M_advance_7 rfl rfl ?_
    refine jv_V0r d_M_advance_8 l_M_60 k_S_hasEnded ⟨Nat.le_of_ble_eq_true rfl, Nat.le_of_ble_eq_true rfl⟩ rfl rfl (Nat.le_of_ble_eq_true rfl) (ct_S_hasEnded) (by first | decide | exact Nat.zero_le _ | (dsimp only; omega) | (dsimp only; grind) | (omega)) (by first | decide | exact Nat.zero_le _ | (dsimp only; omega) | (dsimp only; grind) | (omega)) ?_
    refine jr_if_ne (tgt := 61) d_M_advance_11 (by decide) (fun c11 => ?_) (fun c11 => ?_)
    · skip
      exact absurd (if_neg hE) c11
    · skip
      refine jr_aload_n d_M_advance_14 rfl rfl ?_
      refine jr_aload_n d_M_advance_15 rfl rfl ?_
      refine jv_V1r d_M_advance_16 l_M_64 k_M_awaitedBy ⟨Nat.le_of_ble_eq_true rfl, Nat.le_of_ble_eq_true rfl⟩ rfl rfl (Nat.le_of_ble_eq_true rfl) (hAW) (by first | decide | exact Nat.zero_le _ | (dsimp only; omega) | (dsimp only; grind) | (omega)) (by first | decide | exact Nat.zero_le _ | (dsimp only; omega) | (dsimp only; grind) | (omega)) ?_
      refine jr_if_ne (tgt := 61) d_M_advance_19 (by decide) (fun c19 => ?_) (fun c19 => ?_)
      · skip
        exact absurd hA c19
      · skip
        refine jr_aload_n d_M_advance_22 rfl rfl ?_
        refine jr_getr d_M_advance_23 f_M_25 rfl rfl ?_
        first | rw [hM.2.2.1] | skip
        refine jv_V0r d_M_advance_26 l_M_68 k_H_isFull ⟨Nat.le_of_ble_eq_true rfl, Nat.le_of_ble_eq_true rfl⟩ rfl rfl (Nat.le_of_ble_eq_true rfl) (ct_H_isFull) (by first | decide | exact Nat.zero_le _ | (dsimp only; omega) | (dsimp only; grind) | (omega)) (by first | decide | exact Nat.zero_le _ | (dsimp only; omega) | (dsimp only; grind) | (omega)) ?_
        refine jr_if_eq (tgt := 35) d_M_advance_29 (by decide) (fun c29 => ?_) (fun c29 => ?_)
        · skip
          refine jr_aload_n d_M_advance_35 rfl rfl ?_
          refine jr_aload_n d_M_advance_36 rfl rfl ?_
          refine jv_V1r d_M_advance_37 l_M_73 k_M_objectHeldAgainst ⟨Nat.le_of_ble_eq_true rfl, Nat.le_of_ble_eq_true rfl⟩ rfl rfl (Nat.le_of_ble_eq_true rfl) (hOH) (by first | decide | exact Nat.zero_le _ | (dsimp only; omega) | (dsimp only; grind) | (omega)) (by first | decide | exact Nat.zero_le _ | (dsimp only; omega) | (dsimp only; grind) | (omega)) ?_
          refine jr_if_eq (tgt := 50) d_M_advance_40 (by decide) (fun c40 => ?_) (fun c40 => ?_)
          · skip
            exact absurd c40 hO
          · skip
            refine jr_aload_n d_M_advance_43 rfl rfl ?_
            refine jv_V0v d_M_advance_44 l_M_76 k_S_stop ⟨Nat.le_of_ble_eq_true rfl, Nat.le_of_ble_eq_true rfl⟩ rfl rfl (Nat.le_of_ble_eq_true rfl) (ct_S_stop) (by first | decide | exact Nat.zero_le _ | (dsimp only; omega) | (dsimp only; grind) | (omega)) (by first | decide | exact Nat.zero_le _ | (dsimp only; omega) | (dsimp only; grind) | (omega)) ?_
            refine jr_goto (tgt := 55) d_M_advance_47 (by decide) ?_
            refine jr_iinc d_M_advance_55 rfl jinc1 ?_
            refine jr_goto (tgt := 2) d_M_advance_58 (by decide) ?_
            rw [← jof1 (by omega)] at h; exact h
        · skip
          exact absurd (if_neg hF) c29
theorem adv_step {J : jc_I} {O : jc_O} {live : jc_L → Prop} {t w r nc ns : Nat} {Z : jc_Z} {J1 : jc_I} {O1 : jc_O} {live1 : jc_L → Prop} {mc ms : Nat} (hM : jw_M O) (hAW : jc_Ct y_M_awaitedBy [.inr (some (4, 0, 0)), .inr (some (9, t, 0))] J O live (some (.inl (aw J O t)), J, O, live, 0, 0)) (hOH : jc_Ct y_M_objectHeldAgainst [.inr (some (4, 0, 0)), .inr (some (9, t, 0))] J O live (some (.inl (oh J O t)), J, O, live, 0, 0)) (hr : r < w) (hw : w ≤ 10000) (hE : ¬ (J (9, t, 0) 4 = 1 ∨ J (9, t, 0) 4 = 2)) (hA : aw J O t = 0) (hF : ¬ (2000 ≤ J (3, 0, 0) 2 ∨ 40000 ≤ J (3, 0, 0) 3)) (hO : oh J O t = 0) (hST : jc_Ct y_M_step [.inr (some (4, 0, 0)), .inr (some (9, t, 0))] J O live (none, J1, O1, live1, mc, ms)) (hlv : ∀ q, live q → live1 q) (h1 : nc + mc ≤ Z.2.2.2.2.1) (h2 : ns + ms ≤ Z.2.2.2.2.2) (h : jc_R y_M_advance 2 [some (.inr (some (4, 0, 0))), some (.inr (some (9, t, 0))), some (.inl (Int32.ofNat w)), some (.inl (Int32.ofNat (r + 1)))] [] J1 O1 live1 (nc + mc) (ns + ms) Z) : jc_R y_M_advance 2 [some (.inr (some (4, 0, 0))), some (.inr (some (9, t, 0))), some (.inl (Int32.ofNat w)), some (.inl (Int32.ofNat r))] [] J O live nc ns Z := by
  refine jr_iload_n d_M_advance_2 rfl rfl ?_
  refine jr_iload_n d_M_advance_3 rfl rfl ?_
  refine jr_icmp_ge (tgt := 61) d_M_advance_4 (by decide) (fun c4 => ?_) (fun c4 => ?_)
  · skip
    exfalso; rw [jle, jofI (by omega), jofI (by omega)] at c4; omega
  · skip
    refine jr_aload_n d_M_advance_7 rfl rfl ?_
    refine jv_V0r d_M_advance_8 l_M_60 k_S_hasEnded ⟨Nat.le_of_ble_eq_true rfl, Nat.le_of_ble_eq_true rfl⟩ rfl rfl (Nat.le_of_ble_eq_true rfl) (ct_S_hasEnded) (by first | decide | exact Nat.zero_le _ | (dsimp only; omega) | (dsimp only; grind) | (omega)) (by first | decide | exact Nat.zero_le _ | (dsimp only; omega) | (dsimp only; grind) | (omega)) ?_
    refine jr_if_ne (tgt := 61) d_M_advance_11 (by decide) (fun c11 => ?_) (fun c11 => ?_)
    · skip
      exact absurd (if_neg hE) c11
    · skip
      refine jr_aload_n d_M_advance_14 rfl rfl ?_
      refine jr_aload_n d_M_advance_15 rfl rfl ?_
      refine jv_V1r d_M_advance_16 l_M_64 k_M_awaitedBy ⟨Nat.le_of_ble_eq_true rfl, Nat.le_of_ble_eq_true rfl⟩ rfl rfl (Nat.le_of_ble_eq_true rfl) (hAW) (by first | decide | exact Nat.zero_le _ | (dsimp only; omega) | (dsimp only; grind) | (omega)) (by first | decide | exact Nat.zero_le _ | (dsimp only; omega) | (dsimp only; grind) | (omega)) ?_
      refine jr_if_ne (tgt := 61) d_M_advance_19 (by decide) (fun c19 => ?_) (fun c19 => ?_)
      · skip
        exact absurd hA c19
      · skip
        refine jr_aload_n d_M_advance_22 rfl rfl ?_
        refine jr_getr d_M_advance_23 f_M_25 rfl rfl ?_
        first | rw [hM.2.2.1] | skip
        refine jv_V0r d_M_advance_26 l_M_68 k_H_isFull ⟨Nat.le_of_ble_eq_true rfl, Nat.le_of_ble_eq_true rfl⟩ rfl rfl (Nat.le_of_ble_eq_true rfl) (ct_H_isFull) (by first | decide | exact Nat.zero_le _ | (dsimp only; omega) | (dsimp only; grind) | (omega)) (by first | decide | exact Nat.zero_le _ | (dsimp only; omega) | (dsimp only; grind) | (omega)) ?_
        refine jr_if_eq (tgt := 35) d_M_advance_29 (by decide) (fun c29 => ?_) (fun c29 => ?_)
        · skip
          refine jr_aload_n d_M_advance_35 rfl rfl ?_
          refine jr_aload_n d_M_advance_36 rfl rfl ?_
          refine jv_V1r d_M_advance_37 l_M_73 k_M_objectHeldAgainst ⟨Nat.le_of_ble_eq_true rfl, Nat.le_of_ble_eq_true rfl⟩ rfl rfl (Nat.le_of_ble_eq_true rfl) (hOH) (by first | decide | exact Nat.zero_le _ | (dsimp only; omega) | (dsimp only; grind) | (omega)) (by first | decide | exact Nat.zero_le _ | (dsimp only; omega) | (dsimp only; grind) | (omega)) ?_
          refine jr_if_eq (tgt := 50) d_M_advance_40 (by decide) (fun c40 => ?_) (fun c40 => ?_)
          · skip
            refine jr_aload_n d_M_advance_50 rfl rfl ?_
            refine jr_aload_n d_M_advance_51 rfl rfl ?_
            refine jv_V1vA d_M_advance_52 l_M_79 k_M_step ⟨Nat.le_of_ble_eq_true rfl, Nat.le_of_ble_eq_true rfl⟩ rfl rfl (Nat.le_of_ble_eq_true rfl) (hST) hlv (by first | decide | exact Nat.zero_le _ | (dsimp only; omega) | (dsimp only; grind) | (omega)) (by first | decide | exact Nat.zero_le _ | (dsimp only; omega) | (dsimp only; grind) | (omega)) ?_
            refine jr_iinc d_M_advance_55 rfl jinc1 ?_
            refine jr_goto (tgt := 2) d_M_advance_58 (by decide) ?_
            rw [← jof1 (by omega)] at h; exact h
          · skip
            exact absurd hO c40
        · skip
          exact absurd (if_neg hF) c29
