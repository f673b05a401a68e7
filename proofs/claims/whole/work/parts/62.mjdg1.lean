def q_lr (I : jc_I) (c : Nat) (p : Int32) : Nat → Nat → Int32
  | 0, _ => 0
  | m + 1, r => if I (45, c, 0) r = p ∨ I (43, c, 0) r = p ∨ I (44, c, 0) r = p then 1 else q_lr I c p m (r + 1)
def q_li (I : jc_I) (c : Nat) (p : Int32) : Nat → Nat → Int32
  | 0, _ => 0
  | m + 1, r => if 11 ≤ I (41, c, 0) r ∧ I (41, c, 0) r ≤ 13 ∧ I (42, c, 0) r = p then 1 else q_li I c p m (r + 1)
theorem q_lr01 {I : jc_I} {c : Nat} {p : Int32} : ∀ m r, q_lr I c p m r = 0 ∨ q_lr I c p m r = 1
  | 0, _ => Or.inl rfl
  | m + 1, r => by rw [q_lr]; split; exact Or.inr rfl; exact q_lr01 m (r + 1)
theorem q_li01 {I : jc_I} {c : Nat} {p : Int32} : ∀ m r, q_li I c p m r = 0 ∨ q_li I c p m r = 1
  | 0, _ => Or.inl rfl
  | m + 1, r => by rw [q_li]; split; exact Or.inr rfl; exact q_li01 m (r + 1)
def q_lb (I : jc_I) (c : Nat) (p : Int32) : Int32 := if q_lr I c p (I (11, c, 0) 11).toNatClampNeg 0 = 1 then 1 else q_li I c p (I (11, c, 0) 6).toNatClampNeg 0
theorem q_lb01 {I : jc_I} {c : Nat} {p : Int32} : q_lb I c p = 0 ∨ q_lb I c p = 1 := by
  unfold q_lb
  split
  · exact Or.inr rfl
  · exact q_li01 _ _
theorem lp_mC_isLabel2 {I : jc_I} {O : jc_O} {live : jc_L → Prop} {c : Nat} {p : Int32} (hc : qc O c) (hn : qn I c) : ∀ (m r : Nat), r + m = (I (11, c, 0) 6).toNatClampNeg → jc_R y_mC_isLabel 50 [some (.inr (some (11, c, 0))), some (.inl p), some (.inl (Int32.ofNat r))] [] I O live 0 0 (some (.inl (q_li I c p m r)), I, O, live, 0, 0) := by
  obtain ⟨g2, g4, g5, g7, g8, g9, g10⟩ := id hc
  obtain ⟨n1, n2, n3, n4, n5, n6⟩ := id hn
  intro m
  induction m with
  | zero =>
    intro r hm
    (have a2 := jNI n3); (have a4 := jle.mp n4); rw [show (60 : Int32).toInt = 60 from by decide] at a4; (have a1 := jofI (n := r) (by omega)); (have a3 := jofN (n := r) (by omega))
    refine jr_iload_n d_mC_isLabel_50 rfl rfl ?_
    refine jr_aload_n d_mC_isLabel_51 rfl rfl ?_
    refine jr_geti d_mC_isLabel_52 f_mC_43 rfl ?_
    refine jr_icmp_ge (tgt := 98) d_mC_isLabel_55 (by decide) (fun c55 => ?_) (fun c55 => ?_)
    · skip
      refine jr_iconst (v := 0) d_mC_isLabel_98 (by decide) ?_
      exact jr_retX (v := some _) d_mC_isLabel_99 (by first | exact Nat.le_refl _ | exact Nat.zero_le _ | (dsimp only; omega)) (by first | exact Nat.le_refl _ | exact Nat.zero_le _ | (dsimp only; omega)) (by first | with_reducible rfl | (dsimp only; rfl; done) | (rfl; done) | (exfalso; grind)) (by first | with_reducible rfl | (dsimp only; rfl; done) | (rfl; done) | (exfalso; grind)) (by first | with_reducible rfl | (dsimp only; rfl; done) | (rfl; done) | (exfalso; grind)) (by first | with_reducible rfl | (dsimp only; rfl; done) | (rfl; done) | (exfalso; grind))
    · skip
      exfalso; rw [jle, a1] at c55; omega
  | succ m ih =>
    intro r hm
    (have a2 := jNI n3); (have a4 := jle.mp n4); rw [show (60 : Int32).toInt = 60 from by decide] at a4; (have a1 := jofI (n := r) (by omega)); (have a3 := jofN (n := r) (by omega))
    refine jr_iload_n d_mC_isLabel_50 rfl rfl ?_
    refine jr_aload_n d_mC_isLabel_51 rfl rfl ?_
    refine jr_geti d_mC_isLabel_52 f_mC_43 rfl ?_
    refine jr_icmp_ge (tgt := 98) d_mC_isLabel_55 (by decide) (fun c55 => ?_) (fun c55 => ?_)
    · skip
      exfalso; rw [jle, a1] at c55; omega
    · skip
      refine jr_aload_n d_mC_isLabel_58 rfl rfl ?_
      refine jr_getr d_mC_isLabel_59 f_mC_15 rfl rfl ?_
      first | rw [g2] | rw [g4] | rw [g5] | rw [g7] | rw [g8] | rw [g9] | rw [g10] | skip
      refine jr_iload_n d_mC_isLabel_62 rfl rfl ?_
      refine jr_iald d_mC_isLabel_63 rfl rfl rfl (jinv (by rw [jle, a1, j0I]; omega) (by rw [a3]; show r < 60; omega)) ?_
      rw [a3]
      refine jr_bipush (v := 11) d_mC_isLabel_64 (by decide) ?_
      refine jr_icmp_lt (tgt := 92) d_mC_isLabel_66 (by decide) (fun c66 => ?_) (fun c66 => ?_)
      · skip
        refine jr_iinc d_mC_isLabel_92 rfl jinc1 ?_
        refine jr_goto (tgt := 50) d_mC_isLabel_95 (by decide) ?_
        (have hne : ¬ (11 ≤ I (41, c, 0) r ∧ I (41, c, 0) r ≤ 13 ∧ I (42, c, 0) r = p) := by clear ih; grind); rw [q_li, if_neg hne]; exact (by have e := ih (r + 1) (by omega); rw [← jof1 (by omega)] at e; exact e)
      · skip
        refine jr_aload_n d_mC_isLabel_69 rfl rfl ?_
        refine jr_getr d_mC_isLabel_70 f_mC_15 rfl rfl ?_
        first | rw [g2] | rw [g4] | rw [g5] | rw [g7] | rw [g8] | rw [g9] | rw [g10] | skip
        refine jr_iload_n d_mC_isLabel_73 rfl rfl ?_
        refine jr_iald d_mC_isLabel_74 rfl rfl rfl (jinv (by rw [jle, a1, j0I]; omega) (by rw [a3]; show r < 60; omega)) ?_
        rw [a3]
        refine jr_bipush (v := 13) d_mC_isLabel_75 (by decide) ?_
        refine jr_icmp_gt (tgt := 92) d_mC_isLabel_77 (by decide) (fun c77 => ?_) (fun c77 => ?_)
        · skip
          refine jr_iinc d_mC_isLabel_92 rfl jinc1 ?_
          refine jr_goto (tgt := 50) d_mC_isLabel_95 (by decide) ?_
          (have hne : ¬ (11 ≤ I (41, c, 0) r ∧ I (41, c, 0) r ≤ 13 ∧ I (42, c, 0) r = p) := by clear ih; grind); rw [q_li, if_neg hne]; exact (by have e := ih (r + 1) (by omega); rw [← jof1 (by omega)] at e; exact e)
        · skip
          refine jr_aload_n d_mC_isLabel_80 rfl rfl ?_
          refine jr_getr d_mC_isLabel_81 f_mC_18 rfl rfl ?_
          first | rw [g2] | rw [g4] | rw [g5] | rw [g7] | rw [g8] | rw [g9] | rw [g10] | skip
          refine jr_iload_n d_mC_isLabel_84 rfl rfl ?_
          refine jr_iald d_mC_isLabel_85 rfl rfl rfl (jinv (by rw [jle, a1, j0I]; omega) (by rw [a3]; show r < 60; omega)) ?_
          rw [a3]
          refine jr_iload_n d_mC_isLabel_86 rfl rfl ?_
          refine jr_icmp_ne (tgt := 92) d_mC_isLabel_87 (by decide) (fun c87 => ?_) (fun c87 => ?_)
          · skip
            refine jr_iinc d_mC_isLabel_92 rfl jinc1 ?_
            refine jr_goto (tgt := 50) d_mC_isLabel_95 (by decide) ?_
            (have hne : ¬ (11 ≤ I (41, c, 0) r ∧ I (41, c, 0) r ≤ 13 ∧ I (42, c, 0) r = p) := by clear ih; grind); rw [q_li, if_neg hne]; exact (by have e := ih (r + 1) (by omega); rw [← jof1 (by omega)] at e; exact e)
          · skip
            refine jr_iconst (v := 1) d_mC_isLabel_90 (by decide) ?_
            exact jr_retX (v := some _) d_mC_isLabel_91 (by first | exact Nat.le_refl _ | exact Nat.zero_le _ | (dsimp only; omega)) (by first | exact Nat.le_refl _ | exact Nat.zero_le _ | (dsimp only; omega)) (by first | with_reducible rfl | (dsimp only; (rw [q_li, if_pos (by clear ih; grind)]); done) | ((rw [q_li, if_pos (by clear ih; grind)]); done) | (exfalso; clear ih; grind)) (by first | with_reducible rfl | (dsimp only; (rw [q_li, if_pos (by clear ih; grind)]); done) | ((rw [q_li, if_pos (by clear ih; grind)]); done) | (exfalso; clear ih; grind)) (by first | with_reducible rfl | (dsimp only; (rw [q_li, if_pos (by clear ih; grind)]); done) | ((rw [q_li, if_pos (by clear ih; grind)]); done) | (exfalso; clear ih; grind)) (by first | with_reducible rfl | (dsimp only; (rw [q_li, if_pos (by clear ih; grind)]); done) | ((rw [q_li, if_pos (by clear ih; grind)]); done) | (exfalso; clear ih; grind))
theorem lp_mC_isLabel {I : jc_I} {O : jc_O} {live : jc_L → Prop} {c : Nat} {p : Int32} (hc : qc O c) (hn : qn I c) : ∀ (m r : Nat), r + m = (I (11, c, 0) 11).toNatClampNeg → jc_R y_mC_isLabel 2 [some (.inr (some (11, c, 0))), some (.inl p), some (.inl (Int32.ofNat r))] [] I O live 0 0 (some (.inl (if q_lr I c p m r = 1 then 1 else q_li I c p (I (11, c, 0) 6).toNatClampNeg 0)), I, O, live, 0, 0) := by
  obtain ⟨g2, g4, g5, g7, g8, g9, g10⟩ := id hc
  obtain ⟨n1, n2, n3, n4, n5, n6⟩ := id hn
  intro m
  induction m with
  | zero =>
    intro r hm
    (have a2 := jNI n5); (have a4 := jle.mp n6); rw [show (20 : Int32).toInt = 20 from by decide] at a4; (have a1 := jofI (n := r) (by omega)); (have a3 := jofN (n := r) (by omega))
    refine jr_iload_n d_mC_isLabel_2 rfl rfl ?_
    refine jr_aload_n d_mC_isLabel_3 rfl rfl ?_
    refine jr_geti d_mC_isLabel_4 f_mC_40 rfl ?_
    refine jr_icmp_ge (tgt := 48) d_mC_isLabel_7 (by decide) (fun c7 => ?_) (fun c7 => ?_)
    · skip
      refine jr_iconst (v := 0) d_mC_isLabel_48 (by decide) ?_
      refine jr_istore_n d_mC_isLabel_49 rfl (Nat.le_of_ble_eq_true rfl) ?_
      exact (by have e := lp_mC_isLabel2 (live := live) hc hn (p := p) (I (11, c, 0) 6).toNatClampNeg 0 (by omega); rw [q_lr, if_neg (by decide)]; exact e)
    · skip
      exfalso; rw [jle, a1] at c7; omega
  | succ m ih =>
    intro r hm
    (have a2 := jNI n5); (have a4 := jle.mp n6); rw [show (20 : Int32).toInt = 20 from by decide] at a4; (have a1 := jofI (n := r) (by omega)); (have a3 := jofN (n := r) (by omega))
    refine jr_iload_n d_mC_isLabel_2 rfl rfl ?_
    refine jr_aload_n d_mC_isLabel_3 rfl rfl ?_
    refine jr_geti d_mC_isLabel_4 f_mC_40 rfl ?_
    refine jr_icmp_ge (tgt := 48) d_mC_isLabel_7 (by decide) (fun c7 => ?_) (fun c7 => ?_)
    · skip
      exfalso; rw [jle, a1] at c7; omega
    · skip
      refine jr_aload_n d_mC_isLabel_10 rfl rfl ?_
      refine jr_getr d_mC_isLabel_11 f_mC_27 rfl rfl ?_
      first | rw [g2] | rw [g4] | rw [g5] | rw [g7] | rw [g8] | rw [g9] | rw [g10] | skip
      refine jr_iload_n d_mC_isLabel_14 rfl rfl ?_
      refine jr_iald d_mC_isLabel_15 rfl rfl rfl (jinv (by rw [jle, a1, j0I]; omega) (by rw [a3]; show r < 20; omega)) ?_
      rw [a3]
      refine jr_iload_n d_mC_isLabel_16 rfl rfl ?_
      refine jr_icmp_eq (tgt := 40) d_mC_isLabel_17 (by decide) (fun c17 => ?_) (fun c17 => ?_)
      · skip
        refine jr_iconst (v := 1) d_mC_isLabel_40 (by decide) ?_
        exact jr_retX (v := some _) d_mC_isLabel_41 (by first | exact Nat.le_refl _ | exact Nat.zero_le _ | (dsimp only; omega)) (by first | exact Nat.le_refl _ | exact Nat.zero_le _ | (dsimp only; omega)) (by first | with_reducible rfl | (dsimp only; (rw [q_lr, if_pos (show I (45, c, 0) r = p ∨ I (43, c, 0) r = p ∨ I (44, c, 0) r = p by clear ih; grind), if_pos rfl]); done) | ((rw [q_lr, if_pos (show I (45, c, 0) r = p ∨ I (43, c, 0) r = p ∨ I (44, c, 0) r = p by clear ih; grind), if_pos rfl]); done) | (exfalso; clear ih; grind)) (by first | with_reducible rfl | (dsimp only; (rw [q_lr, if_pos (show I (45, c, 0) r = p ∨ I (43, c, 0) r = p ∨ I (44, c, 0) r = p by clear ih; grind), if_pos rfl]); done) | ((rw [q_lr, if_pos (show I (45, c, 0) r = p ∨ I (43, c, 0) r = p ∨ I (44, c, 0) r = p by clear ih; grind), if_pos rfl]); done) | (exfalso; clear ih; grind)) (by first | with_reducible rfl | (dsimp only; (rw [q_lr, if_pos (show I (45, c, 0) r = p ∨ I (43, c, 0) r = p ∨ I (44, c, 0) r = p by clear ih; grind), if_pos rfl]); done) | ((rw [q_lr, if_pos (show I (45, c, 0) r = p ∨ I (43, c, 0) r = p ∨ I (44, c, 0) r = p by clear ih; grind), if_pos rfl]); done) | (exfalso; clear ih; grind)) (by first | with_reducible rfl | (dsimp only; (rw [q_lr, if_pos (show I (45, c, 0) r = p ∨ I (43, c, 0) r = p ∨ I (44, c, 0) r = p by clear ih; grind), if_pos rfl]); done) | ((rw [q_lr, if_pos (show I (45, c, 0) r = p ∨ I (43, c, 0) r = p ∨ I (44, c, 0) r = p by clear ih; grind), if_pos rfl]); done) | (exfalso; clear ih; grind))
      · skip
        refine jr_aload_n d_mC_isLabel_20 rfl rfl ?_
        refine jr_getr d_mC_isLabel_21 f_mC_21 rfl rfl ?_
        first | rw [g2] | rw [g4] | rw [g5] | rw [g7] | rw [g8] | rw [g9] | rw [g10] | skip
        refine jr_iload_n d_mC_isLabel_24 rfl rfl ?_
        refine jr_iald d_mC_isLabel_25 rfl rfl rfl (jinv (by rw [jle, a1, j0I]; omega) (by rw [a3]; show r < 20; omega)) ?_
        rw [a3]
        refine jr_iload_n d_mC_isLabel_26 rfl rfl ?_
        refine jr_icmp_eq (tgt := 40) d_mC_isLabel_27 (by decide) (fun c27 => ?_) (fun c27 => ?_)
        · skip
          refine jr_iconst (v := 1) d_mC_isLabel_40 (by decide) ?_
          exact jr_retX (v := some _) d_mC_isLabel_41 (by first | exact Nat.le_refl _ | exact Nat.zero_le _ | (dsimp only; omega)) (by first | exact Nat.le_refl _ | exact Nat.zero_le _ | (dsimp only; omega)) (by first | with_reducible rfl | (dsimp only; (rw [q_lr, if_pos (show I (45, c, 0) r = p ∨ I (43, c, 0) r = p ∨ I (44, c, 0) r = p by clear ih; grind), if_pos rfl]); done) | ((rw [q_lr, if_pos (show I (45, c, 0) r = p ∨ I (43, c, 0) r = p ∨ I (44, c, 0) r = p by clear ih; grind), if_pos rfl]); done) | (exfalso; clear ih; grind)) (by first | with_reducible rfl | (dsimp only; (rw [q_lr, if_pos (show I (45, c, 0) r = p ∨ I (43, c, 0) r = p ∨ I (44, c, 0) r = p by clear ih; grind), if_pos rfl]); done) | ((rw [q_lr, if_pos (show I (45, c, 0) r = p ∨ I (43, c, 0) r = p ∨ I (44, c, 0) r = p by clear ih; grind), if_pos rfl]); done) | (exfalso; clear ih; grind)) (by first | with_reducible rfl | (dsimp only; (rw [q_lr, if_pos (show I (45, c, 0) r = p ∨ I (43, c, 0) r = p ∨ I (44, c, 0) r = p by clear ih; grind), if_pos rfl]); done) | ((rw [q_lr, if_pos (show I (45, c, 0) r = p ∨ I (43, c, 0) r = p ∨ I (44, c, 0) r = p by clear ih; grind), if_pos rfl]); done) | (exfalso; clear ih; grind)) (by first | with_reducible rfl | (dsimp only; (rw [q_lr, if_pos (show I (45, c, 0) r = p ∨ I (43, c, 0) r = p ∨ I (44, c, 0) r = p by clear ih; grind), if_pos rfl]); done) | ((rw [q_lr, if_pos (show I (45, c, 0) r = p ∨ I (43, c, 0) r = p ∨ I (44, c, 0) r = p by clear ih; grind), if_pos rfl]); done) | (exfalso; clear ih; grind))
        · skip
          refine jr_aload_n d_mC_isLabel_30 rfl rfl ?_
          refine jr_getr d_mC_isLabel_31 f_mC_24 rfl rfl ?_
          first | rw [g2] | rw [g4] | rw [g5] | rw [g7] | rw [g8] | rw [g9] | rw [g10] | skip
          refine jr_iload_n d_mC_isLabel_34 rfl rfl ?_
          refine jr_iald d_mC_isLabel_35 rfl rfl rfl (jinv (by rw [jle, a1, j0I]; omega) (by rw [a3]; show r < 20; omega)) ?_
          rw [a3]
          refine jr_iload_n d_mC_isLabel_36 rfl rfl ?_
          refine jr_icmp_ne (tgt := 42) d_mC_isLabel_37 (by decide) (fun c37 => ?_) (fun c37 => ?_)
          · skip
            refine jr_iinc d_mC_isLabel_42 rfl jinc1 ?_
            refine jr_goto (tgt := 2) d_mC_isLabel_45 (by decide) ?_
            (have hne : ¬ (I (45, c, 0) r = p ∨ I (43, c, 0) r = p ∨ I (44, c, 0) r = p) := by clear ih; grind); rw [q_lr, if_neg hne]; exact (by have e := ih (r + 1) (by omega); rw [← jof1 (by omega)] at e; exact e)
          · skip
            refine jr_iconst (v := 1) d_mC_isLabel_40 (by decide) ?_
            exact jr_retX (v := some _) d_mC_isLabel_41 (by first | exact Nat.le_refl _ | exact Nat.zero_le _ | (dsimp only; omega)) (by first | exact Nat.le_refl _ | exact Nat.zero_le _ | (dsimp only; omega)) (by first | with_reducible rfl | (dsimp only; (rw [q_lr, if_pos (show I (45, c, 0) r = p ∨ I (43, c, 0) r = p ∨ I (44, c, 0) r = p by clear ih; grind), if_pos rfl]); done) | ((rw [q_lr, if_pos (show I (45, c, 0) r = p ∨ I (43, c, 0) r = p ∨ I (44, c, 0) r = p by clear ih; grind), if_pos rfl]); done) | (exfalso; clear ih; grind)) (by first | with_reducible rfl | (dsimp only; (rw [q_lr, if_pos (show I (45, c, 0) r = p ∨ I (43, c, 0) r = p ∨ I (44, c, 0) r = p by clear ih; grind), if_pos rfl]); done) | ((rw [q_lr, if_pos (show I (45, c, 0) r = p ∨ I (43, c, 0) r = p ∨ I (44, c, 0) r = p by clear ih; grind), if_pos rfl]); done) | (exfalso; clear ih; grind)) (by first | with_reducible rfl | (dsimp only; (rw [q_lr, if_pos (show I (45, c, 0) r = p ∨ I (43, c, 0) r = p ∨ I (44, c, 0) r = p by clear ih; grind), if_pos rfl]); done) | ((rw [q_lr, if_pos (show I (45, c, 0) r = p ∨ I (43, c, 0) r = p ∨ I (44, c, 0) r = p by clear ih; grind), if_pos rfl]); done) | (exfalso; clear ih; grind)) (by first | with_reducible rfl | (dsimp only; (rw [q_lr, if_pos (show I (45, c, 0) r = p ∨ I (43, c, 0) r = p ∨ I (44, c, 0) r = p by clear ih; grind), if_pos rfl]); done) | ((rw [q_lr, if_pos (show I (45, c, 0) r = p ∨ I (43, c, 0) r = p ∨ I (44, c, 0) r = p by clear ih; grind), if_pos rfl]); done) | (exfalso; clear ih; grind))
theorem ct_mC_isLabel {I : jc_I} {O : jc_O} {live : jc_L → Prop} {c : Nat} {p : Int32} (hc : qc O c) (hn : qn I c) : jc_Ct y_mC_isLabel [.inr (some (11, c, 0)), .inl p] I O live (some (.inl (q_lb I c p)), I, O, live, 0, 0) := by
  refine jc_Ct.of (by decide +kernel) (Or.inr ⟨rfl, q_lb01⟩) (Nat.le_of_ble_eq_true rfl) ?_
  refine jr_iconst (v := 0) d_mC_isLabel_0 (by decide) ?_
  refine jr_istore_n d_mC_isLabel_1 rfl (Nat.le_of_ble_eq_true rfl) ?_
  exact lp_mC_isLabel hc hn (I (11, c, 0) 11).toNatClampNeg 0 (by omega)
def q_tg (I : jc_I) (c : Nat) (p : Int32) : Int32 := if I (10, 0, 0) 8 = 0 ∧ 0 ≤ p ∧ p < I (11, c, 0) 6 ∧ q_ta I c p (I (11, c, 0) 11).toNatClampNeg 0 = 0 then 1 else 0
theorem q_tg01 {I : jc_I} {c : Nat} {p : Int32} : q_tg I c p = 0 ∨ q_tg I c p = 1 := by unfold q_tg; grind
theorem ct_m_isTarget {I : jc_I} {O : jc_O} {live : jc_L → Prop} {c : Nat} {p : Int32} (hc : qc O c) (hn : qn I c) : jc_Ct y_m_isTarget [.inr (some (10, 0, 0)), .inr (some (11, c, 0)), .inl p] I O live (some (.inl (q_tg I c p)), I, O, live, 0, 0) := by
  refine jc_Ct.of (by decide +kernel) (Or.inr ⟨rfl, q_tg01⟩) (Nat.le_of_ble_eq_true rfl) ?_
  refine jr_aload_n d_m_isTarget_0 rfl rfl ?_
  refine jr_geti d_m_isTarget_1 f_m_84 rfl ?_
  refine jr_if_ne (tgt := 31) d_m_isTarget_4 (by decide) (fun c4 => ?_) (fun c4 => ?_)
  · skip
    refine jr_iconst (v := 0) d_m_isTarget_31 (by decide) ?_
    exact jr_retX (v := some _) d_m_isTarget_32 (by first | exact Nat.le_refl _ | exact Nat.zero_le _ | (dsimp only; omega)) (by first | exact Nat.le_refl _ | exact Nat.zero_le _ | (dsimp only; omega)) (by first | with_reducible rfl | (dsimp only; (unfold q_tg; (repeat (first | rw [if_pos (by grind)] | rw [if_neg (by grind)]))); done) | ((unfold q_tg; (repeat (first | rw [if_pos (by grind)] | rw [if_neg (by grind)]))); done) | (exfalso; grind)) (by first | with_reducible rfl | (dsimp only; (unfold q_tg; (repeat (first | rw [if_pos (by grind)] | rw [if_neg (by grind)]))); done) | ((unfold q_tg; (repeat (first | rw [if_pos (by grind)] | rw [if_neg (by grind)]))); done) | (exfalso; grind)) (by first | with_reducible rfl | (dsimp only; (unfold q_tg; (repeat (first | rw [if_pos (by grind)] | rw [if_neg (by grind)]))); done) | ((unfold q_tg; (repeat (first | rw [if_pos (by grind)] | rw [if_neg (by grind)]))); done) | (exfalso; grind)) (by first | with_reducible rfl | (dsimp only; (unfold q_tg; (repeat (first | rw [if_pos (by grind)] | rw [if_neg (by grind)]))); done) | ((unfold q_tg; (repeat (first | rw [if_pos (by grind)] | rw [if_neg (by grind)]))); done) | (exfalso; grind))
  · skip
    refine jr_iload_n d_m_isTarget_7 rfl rfl ?_
    refine jr_if_lt (tgt := 31) d_m_isTarget_8 (by decide) (fun c8 => ?_) (fun c8 => ?_)
    · skip
      refine jr_iconst (v := 0) d_m_isTarget_31 (by decide) ?_
      exact jr_retX (v := some _) d_m_isTarget_32 (by first | exact Nat.le_refl _ | exact Nat.zero_le _ | (dsimp only; omega)) (by first | exact Nat.le_refl _ | exact Nat.zero_le _ | (dsimp only; omega)) (by first | with_reducible rfl | (dsimp only; (unfold q_tg; (repeat (first | rw [if_pos (by grind)] | rw [if_neg (by grind)]))); done) | ((unfold q_tg; (repeat (first | rw [if_pos (by grind)] | rw [if_neg (by grind)]))); done) | (exfalso; grind)) (by first | with_reducible rfl | (dsimp only; (unfold q_tg; (repeat (first | rw [if_pos (by grind)] | rw [if_neg (by grind)]))); done) | ((unfold q_tg; (repeat (first | rw [if_pos (by grind)] | rw [if_neg (by grind)]))); done) | (exfalso; grind)) (by first | with_reducible rfl | (dsimp only; (unfold q_tg; (repeat (first | rw [if_pos (by grind)] | rw [if_neg (by grind)]))); done) | ((unfold q_tg; (repeat (first | rw [if_pos (by grind)] | rw [if_neg (by grind)]))); done) | (exfalso; grind)) (by first | with_reducible rfl | (dsimp only; (unfold q_tg; (repeat (first | rw [if_pos (by grind)] | rw [if_neg (by grind)]))); done) | ((unfold q_tg; (repeat (first | rw [if_pos (by grind)] | rw [if_neg (by grind)]))); done) | (exfalso; grind))
    · skip
      refine jr_iload_n d_m_isTarget_11 rfl rfl ?_
      refine jr_aload_n d_m_isTarget_12 rfl rfl ?_
      refine jr_geti d_m_isTarget_13 f_m_56 rfl ?_
      refine jr_icmp_ge (tgt := 31) d_m_isTarget_16 (by decide) (fun c16 => ?_) (fun c16 => ?_)
      · skip
        refine jr_iconst (v := 0) d_m_isTarget_31 (by decide) ?_
        exact jr_retX (v := some _) d_m_isTarget_32 (by first | exact Nat.le_refl _ | exact Nat.zero_le _ | (dsimp only; omega)) (by first | exact Nat.le_refl _ | exact Nat.zero_le _ | (dsimp only; omega)) (by first | with_reducible rfl | (dsimp only; (unfold q_tg; (repeat (first | rw [if_pos (by grind)] | rw [if_neg (by grind)]))); done) | ((unfold q_tg; (repeat (first | rw [if_pos (by grind)] | rw [if_neg (by grind)]))); done) | (exfalso; grind)) (by first | with_reducible rfl | (dsimp only; (unfold q_tg; (repeat (first | rw [if_pos (by grind)] | rw [if_neg (by grind)]))); done) | ((unfold q_tg; (repeat (first | rw [if_pos (by grind)] | rw [if_neg (by grind)]))); done) | (exfalso; grind)) (by first | with_reducible rfl | (dsimp only; (unfold q_tg; (repeat (first | rw [if_pos (by grind)] | rw [if_neg (by grind)]))); done) | ((unfold q_tg; (repeat (first | rw [if_pos (by grind)] | rw [if_neg (by grind)]))); done) | (exfalso; grind)) (by first | with_reducible rfl | (dsimp only; (unfold q_tg; (repeat (first | rw [if_pos (by grind)] | rw [if_neg (by grind)]))); done) | ((unfold q_tg; (repeat (first | rw [if_pos (by grind)] | rw [if_neg (by grind)]))); done) | (exfalso; grind))
      · skip
        refine jr_aload_n d_m_isTarget_19 rfl rfl ?_
        refine jr_iload_n d_m_isTarget_20 rfl rfl ?_
        refine jv_V1r d_m_isTarget_21 l_m_96 k_mC_isTaker ⟨Nat.le_of_ble_eq_true rfl, Nat.le_of_ble_eq_true rfl⟩ rfl rfl (Nat.le_of_ble_eq_true rfl) (ct_mC_isTaker hc hn) (by first | decide | exact Nat.zero_le _ | (dsimp only; omega) | (dsimp only; grind)) (by first | decide | exact Nat.zero_le _ | (dsimp only; omega) | (dsimp only; grind)) ?_
        refine jr_if_ne (tgt := 31) d_m_isTarget_24 (by decide) (fun c24 => ?_) (fun c24 => ?_)
        · skip
          refine jr_iconst (v := 0) d_m_isTarget_31 (by decide) ?_
          exact jr_retX (v := some _) d_m_isTarget_32 (by first | exact Nat.le_refl _ | exact Nat.zero_le _ | (dsimp only; omega)) (by first | exact Nat.le_refl _ | exact Nat.zero_le _ | (dsimp only; omega)) (by first | with_reducible rfl | (dsimp only; (unfold q_tg; (repeat (first | rw [if_pos (by grind)] | rw [if_neg (by grind)]))); done) | ((unfold q_tg; (repeat (first | rw [if_pos (by grind)] | rw [if_neg (by grind)]))); done) | (exfalso; grind)) (by first | with_reducible rfl | (dsimp only; (unfold q_tg; (repeat (first | rw [if_pos (by grind)] | rw [if_neg (by grind)]))); done) | ((unfold q_tg; (repeat (first | rw [if_pos (by grind)] | rw [if_neg (by grind)]))); done) | (exfalso; grind)) (by first | with_reducible rfl | (dsimp only; (unfold q_tg; (repeat (first | rw [if_pos (by grind)] | rw [if_neg (by grind)]))); done) | ((unfold q_tg; (repeat (first | rw [if_pos (by grind)] | rw [if_neg (by grind)]))); done) | (exfalso; grind)) (by first | with_reducible rfl | (dsimp only; (unfold q_tg; (repeat (first | rw [if_pos (by grind)] | rw [if_neg (by grind)]))); done) | ((unfold q_tg; (repeat (first | rw [if_pos (by grind)] | rw [if_neg (by grind)]))); done) | (exfalso; grind))
        · skip
          refine jr_iconst (v := 1) d_m_isTarget_27 (by decide) ?_
          refine jr_goto (tgt := 32) d_m_isTarget_28 (by decide) ?_
          exact jr_retX (v := some _) d_m_isTarget_32 (by first | exact Nat.le_refl _ | exact Nat.zero_le _ | (dsimp only; omega)) (by first | exact Nat.le_refl _ | exact Nat.zero_le _ | (dsimp only; omega)) (by first | with_reducible rfl | (dsimp only; (unfold q_tg; (repeat (first | rw [if_pos (by grind)] | rw [if_neg (by grind)]))); done) | ((unfold q_tg; (repeat (first | rw [if_pos (by grind)] | rw [if_neg (by grind)]))); done) | (exfalso; grind)) (by first | with_reducible rfl | (dsimp only; (unfold q_tg; (repeat (first | rw [if_pos (by grind)] | rw [if_neg (by grind)]))); done) | ((unfold q_tg; (repeat (first | rw [if_pos (by grind)] | rw [if_neg (by grind)]))); done) | (exfalso; grind)) (by first | with_reducible rfl | (dsimp only; (unfold q_tg; (repeat (first | rw [if_pos (by grind)] | rw [if_neg (by grind)]))); done) | ((unfold q_tg; (repeat (first | rw [if_pos (by grind)] | rw [if_neg (by grind)]))); done) | (exfalso; grind)) (by first | with_reducible rfl | (dsimp only; (unfold q_tg; (repeat (first | rw [if_pos (by grind)] | rw [if_neg (by grind)]))); done) | ((unfold q_tg; (repeat (first | rw [if_pos (by grind)] | rw [if_neg (by grind)]))); done) | (exfalso; grind))
def q_and (r : Int32 × jc_I) (f : jc_I → Int32 × jc_I) : Int32 × jc_I := if r.1 = 0 then (0, r.2) else f r.2
abbrev q_1 (I : jc_I) : Int32 × jc_I := (1, I)
theorem q_gv01 {I : jc_I} {k : Int32} : (q_gv I k).1 = 0 ∨ (q_gv I k).1 = 1 := by unfold q_gv; grind
theorem q_tk01 {I : jc_I} {k : Int32} : (q_tk I k).1 = 0 ∨ (q_tk I k).1 = 1 := by unfold q_tk; grind
theorem q_gv_e {I : jc_I} {k : Int32} {q : jc_L} {i : Nat} (h1 : q ≠ (51, 0, 0)) (h2 : ¬ (q = (10, 0, 0) ∧ i = 8)) : (q_gv I k).2 q i = I q i := by
  unfold q_gv
  split
  · rfl
  · split
    · rfl
    · show jc_up _ _ _ _ _ _ = _
      unfold jc_up
      rw [if_neg h2, if_neg (fun g => h1 g.1)]
theorem q_tk_e {I : jc_I} {k : Int32} {q : jc_L} {i : Nat} (h2 : ¬ (q = (10, 0, 0) ∧ i = 8)) : (q_tk I k).2 q i = I q i := by
  unfold q_tk
  split
  · rfl
  · split
    · rfl
    · show jc_up _ _ _ _ _ _ = _
      unfold jc_up
      rw [if_neg h2]
theorem qk.gv {I : jc_I} {O : jc_O} {k : Int32} (h : qk I O) : qk (q_gv I k).2 O := by
  obtain ⟨h1, h2, h3⟩ := h
  refine ⟨h1, ?_⟩
  unfold q_gv
  split
  · exact ⟨h2, h3⟩
  · split
    · exact ⟨h2, h3⟩
    · show (0 : Int32) ≤ jc_up _ _ _ _ _ _ ∧ jc_up _ _ _ _ _ _ ≤ (12 : Int32)
      rw [jc_up_s]
      grind
theorem qk.tk {I : jc_I} {O : jc_O} {k : Int32} (h : qk I O) : qk (q_tk I k).2 O := by
  obtain ⟨h1, h2, h3⟩ := h
  refine ⟨h1, ?_⟩
  unfold q_tk
  split
  · exact ⟨h2, h3⟩
  · split
    · exact ⟨h2, h3⟩
    · show (0 : Int32) ≤ jc_up _ _ _ _ _ _ ∧ jc_up _ _ _ _ _ _ ≤ (12 : Int32)
      rw [jc_up_s]
      grind
theorem qn.tk {I : jc_I} {c : Nat} {k : Int32} (h : qn I c) : qn (q_tk I k).2 c := by
  unfold qn at *
  rw [q_tk_e (by simp), q_tk_e (by simp), q_tk_e (by simp)]
  exact h
/-- isGoodCall -/
def q_gcl (d : Nat) : Nat → jc_I → Int32 × jc_I
  | 0, I => q_gv I (I (11, d, 0) 1)
  | m + 1, I => if q_lk I d (Int32.ofNat m) = 0 then (0, I) else if (q_tk I (q_lk I d (Int32.ofNat m))).1 = 0 then (0, (q_tk I (q_lk I d (Int32.ofNat m))).2) else q_gcl d m (q_tk I (q_lk I d (Int32.ofNat m))).2
def q_gc (I : jc_I) (a : Int32) : Int32 × jc_I := if 0 ≤ a ∧ a < I (15, 0, 0) 1 then q_gcl a.toNatClampNeg (I (11, a.toNatClampNeg, 0) 0).toNatClampNeg I else (0, I)
theorem q_gcl01 {d : Nat} : ∀ (m : Nat) (I : jc_I), (q_gcl d m I).1 = 0 ∨ (q_gcl d m I).1 = 1
  | 0, I => q_gv01
  | m + 1, I => by
    rw [q_gcl]
    split
    · exact Or.inl rfl
    · split
      · exact Or.inl rfl
      · exact q_gcl01 m _
theorem q_gc01 {I : jc_I} {a : Int32} : (q_gc I a).1 = 0 ∨ (q_gc I a).1 = 1 := by
  unfold q_gc
  split
  · exact q_gcl01 _ _
  · exact Or.inl rfl
theorem lp_m_isGoodCall {O : jc_O} {live : jc_L → Prop} {d : Nat} {a : Int32} (hc : qc O d) : ∀ (m : Nat) (I : jc_I), qn I d → qk I O → m ≤ 8 → jc_R y_m_isGoodCall 29 [some (.inr (some (10, 0, 0))), some (.inl a), some (.inr (some (11, d, 0))), some (.inl (Int32.ofNat m - 1))] [] I O live 0 0 (some (.inl (q_gcl d m I).1), (q_gcl d m I).2, O, live, 0, 0) := by
  intro m
  induction m with
  | zero =>
    intro I hn hk hm
    refine jr_iload_n d_m_isGoodCall_29 rfl rfl ?_
    refine jr_if_lt (tgt := 61) d_m_isGoodCall_30 (by decide) (fun c30 => ?_) (fun c30 => ?_)
    · skip
      refine jr_aload_n d_m_isGoodCall_61 rfl rfl ?_
      refine jr_aload_n d_m_isGoodCall_62 rfl rfl ?_
      refine jr_geti d_m_isGoodCall_63 f_m_117 rfl ?_
      refine jv_V1r d_m_isGoodCall_66 l_m_103 k_m_gives ⟨Nat.le_of_ble_eq_true rfl, Nat.le_of_ble_eq_true rfl⟩ rfl rfl (Nat.le_of_ble_eq_true rfl) (ct_m_gives hk) (by first | decide | exact Nat.zero_le _ | (dsimp only; omega) | (dsimp only; grind)) (by first | decide | exact Nat.zero_le _ | (dsimp only; omega) | (dsimp only; grind)) ?_
      exact jr_retX (v := some _) d_m_isGoodCall_69 (by first | exact Nat.le_refl _ | exact Nat.zero_le _ | (dsimp only; omega)) (by first | exact Nat.le_refl _ | exact Nat.zero_le _ | (dsimp only; omega)) (by first | with_reducible rfl | (dsimp only; (rw [q_gcl]); done) | ((rw [q_gcl]); done) | (exfalso; grind)) (by first | with_reducible rfl | (dsimp only; (rw [q_gcl]); done) | ((rw [q_gcl]); done) | (exfalso; grind)) (by first | with_reducible rfl | (dsimp only; (rw [q_gcl]); done) | ((rw [q_gcl]); done) | (exfalso; grind)) (by first | with_reducible rfl | (dsimp only; (rw [q_gcl]); done) | ((rw [q_gcl]); done) | (exfalso; grind))
    · skip
      exfalso; exact c30 (by decide)
  | succ m ih =>
    intro I hn hk hm
    have a1 := jofI (n := m) (by omega)
    rw [jofs (by omega)]
    refine jr_iload_n d_m_isGoodCall_29 rfl rfl ?_
    refine jr_if_lt (tgt := 61) d_m_isGoodCall_30 (by decide) (fun c30 => ?_) (fun c30 => ?_)
    · skip
      exfalso; rw [jlt, a1, j0I] at c30; omega
    · skip
      refine jr_aload_n d_m_isGoodCall_33 rfl rfl ?_
      refine jr_iload_n d_m_isGoodCall_34 rfl rfl ?_
      refine jv_S2r d_m_isGoodCall_35 l_m_109 k_m_kindOf ⟨Nat.le_of_ble_eq_true rfl, Nat.le_of_ble_eq_true rfl⟩ (Nat.le_of_ble_eq_true rfl) (ct_m_kindOf hc hn) (by first | decide | exact Nat.zero_le _ | (dsimp only; omega) | (dsimp only; grind)) (by first | decide | exact Nat.zero_le _ | (dsimp only; omega) | (dsimp only; grind)) ?_
      refine jr_if_eq (tgt := 53) d_m_isGoodCall_38 (by decide) (fun c38 => ?_) (fun c38 => ?_)
      · skip
        refine jr_iconst (v := 0) d_m_isGoodCall_53 (by decide) ?_
        exact jr_retX (v := some _) d_m_isGoodCall_54 (by first | exact Nat.le_refl _ | exact Nat.zero_le _ | (dsimp only; omega)) (by first | exact Nat.le_refl _ | exact Nat.zero_le _ | (dsimp only; omega)) (by first | with_reducible rfl | (dsimp only; (rw [q_gcl, if_pos c38]); done) | ((rw [q_gcl, if_pos c38]); done) | (exfalso; grind)) (by first | with_reducible rfl | (dsimp only; (rw [q_gcl, if_pos c38]); done) | ((rw [q_gcl, if_pos c38]); done) | (exfalso; grind)) (by first | with_reducible rfl | (dsimp only; (rw [q_gcl, if_pos c38]); done) | ((rw [q_gcl, if_pos c38]); done) | (exfalso; grind)) (by first | with_reducible rfl | (dsimp only; (rw [q_gcl, if_pos c38]); done) | ((rw [q_gcl, if_pos c38]); done) | (exfalso; grind))
      · skip
        refine jr_aload_n d_m_isGoodCall_41 rfl rfl ?_
        refine jr_aload_n d_m_isGoodCall_42 rfl rfl ?_
        refine jr_iload_n d_m_isGoodCall_43 rfl rfl ?_
        refine jv_S2r d_m_isGoodCall_44 l_m_109 k_m_kindOf ⟨Nat.le_of_ble_eq_true rfl, Nat.le_of_ble_eq_true rfl⟩ (Nat.le_of_ble_eq_true rfl) (ct_m_kindOf hc hn) (by first | decide | exact Nat.zero_le _ | (dsimp only; omega) | (dsimp only; grind)) (by first | decide | exact Nat.zero_le _ | (dsimp only; omega) | (dsimp only; grind)) ?_
        refine jv_V1r d_m_isGoodCall_47 l_m_106 k_m_takes ⟨Nat.le_of_ble_eq_true rfl, Nat.le_of_ble_eq_true rfl⟩ rfl rfl (Nat.le_of_ble_eq_true rfl) (ct_m_takes hk) (by first | decide | exact Nat.zero_le _ | (dsimp only; omega) | (dsimp only; grind)) (by first | decide | exact Nat.zero_le _ | (dsimp only; omega) | (dsimp only; grind)) ?_
        refine jr_if_ne (tgt := 55) d_m_isGoodCall_50 (by decide) (fun c50 => ?_) (fun c50 => ?_)
        · skip
          refine jr_iinc d_m_isGoodCall_55 rfl jincm1 ?_
          refine jr_goto (tgt := 29) d_m_isGoodCall_58 (by decide) ?_
          rw [q_gcl, if_neg c38, if_neg c50]; exact ih (q_tk I (q_lk I d (Int32.ofNat m))).2 hn.tk hk.tk (by omega)
        · skip
          refine jr_iconst (v := 0) d_m_isGoodCall_53 (by decide) ?_
          exact jr_retX (v := some _) d_m_isGoodCall_54 (by first | exact Nat.le_refl _ | exact Nat.zero_le _ | (dsimp only; omega)) (by first | exact Nat.le_refl _ | exact Nat.zero_le _ | (dsimp only; omega)) (by first | with_reducible rfl | (dsimp only; (rw [q_gcl, if_neg c38, if_pos c50]); done) | ((rw [q_gcl, if_neg c38, if_pos c50]); done) | (exfalso; grind)) (by first | with_reducible rfl | (dsimp only; (rw [q_gcl, if_neg c38, if_pos c50]); done) | ((rw [q_gcl, if_neg c38, if_pos c50]); done) | (exfalso; grind)) (by first | with_reducible rfl | (dsimp only; (rw [q_gcl, if_neg c38, if_pos c50]); done) | ((rw [q_gcl, if_neg c38, if_pos c50]); done) | (exfalso; grind)) (by first | with_reducible rfl | (dsimp only; (rw [q_gcl, if_neg c38, if_pos c50]); done) | ((rw [q_gcl, if_neg c38, if_pos c50]); done) | (exfalso; grind))
/-- the codes of the reference -/
def qA (I : jc_I) (O : jc_O) (live : jc_L → Prop) (cn : Nat) : Prop := qM O ∧ ql I O live 0 cn qCo ∧ ∀ d, d < cn → qc O d ∧ qn I d ∧ 0 ≤ I (11, d, 0) 0 ∧ I (11, d, 0) 0 ≤ 8
theorem qA.to {I J : jc_I} {O : jc_O} {live : jc_L → Prop} {cn : Nat} (h : qA I O live cn) (e : ∀ q k, q.1 = 11 ∨ q.1 = 15 → J q k = I q k) : qA J O live cn := by
  obtain ⟨h1, h2, h3⟩ := h
  refine ⟨h1, h2.to (e _ _ (Or.inr rfl)) rfl (fun _ _ => rfl) (fun _ h => h), fun d hd => ?_⟩
  obtain ⟨a, b, c⟩ := h3 d hd
  unfold qn at *
  rw [e _ 3 (Or.inl rfl), e _ 6 (Or.inl rfl), e _ 11 (Or.inl rfl), e _ 0 (Or.inl rfl)]
  exact ⟨a, b, c⟩
theorem qA.tk {I : jc_I} {O : jc_O} {live : jc_L → Prop} {cn : Nat} {k : Int32} (h : qA I O live cn) : qA (q_tk I k).2 O live cn := h.to (fun q i hq => q_tk_e (fun g => by rw [g.1] at hq; simp at hq))
theorem ct_m_isGoodCall {I : jc_I} {O : jc_O} {live : jc_L → Prop} {cn : Nat} {a : Int32} (hA : qA I O live cn) (hk : qk I O) : jc_Ct y_m_isGoodCall [.inr (some (10, 0, 0)), .inl a] I O live (some (.inl (q_gc I a).1), (q_gc I a).2, O, live, 0, 0) := by
  obtain ⟨m0, m2, m4, m6, m7⟩ := id hA.1
  refine jc_Ct.of (by decide +kernel) (Or.inr ⟨rfl, q_gc01⟩) (Nat.le_of_ble_eq_true rfl) ?_
  refine jr_aload_n d_m_isGoodCall_0 rfl rfl ?_
  refine jr_iload_n d_m_isGoodCall_1 rfl rfl ?_
  refine jv_V1r d_m_isGoodCall_2 l_m_123 k_m_isCode ⟨Nat.le_of_ble_eq_true rfl, Nat.le_of_ble_eq_true rfl⟩ rfl rfl (Nat.le_of_ble_eq_true rfl) (ct_m_isCode hA.1.1) (by first | decide | exact Nat.zero_le _ | (dsimp only; omega) | (dsimp only; grind)) (by first | decide | exact Nat.zero_le _ | (dsimp only; omega) | (dsimp only; grind)) ?_
  refine jr_if_ne (tgt := 10) d_m_isGoodCall_5 (by decide) (fun c5 => ?_) (fun c5 => ?_)
  · skip
    (have hx : 0 ≤ a ∧ a < I (15, 0, 0) 1 := by clear hA; grind); (have hcp := hA.2.1.cp); (have hle := hA.2.1.le); (have hd : a.toNatClampNeg < cn := by have h9 := jlN hx.1 hx.2; rw [hA.2.1.sz, jofI (by omega)] at h9; omega); (have ha : a = Int32.ofNat a.toNatClampNeg := by apply Int32.toInt_inj.mp; rw [jofI (by omega), jNI hx.1]); obtain ⟨hc, hn, p1, p2⟩ := hA.2.2 _ hd; (have hp8 : (I (11, a.toNatClampNeg, 0) 0).toNatClampNeg ≤ 8 := by have := jNI p1; rw [jle, show (8 : Int32).toInt = 8 from by decide] at p2; omega); (have ep : Int32.ofNat (I (11, a.toNatClampNeg, 0) 0).toNatClampNeg = I (11, a.toNatClampNeg, 0) 0 := by apply Int32.toInt_inj.mp; rw [jofI (by omega), jNI p1])
    refine jr_aload_n d_m_isGoodCall_10 rfl rfl ?_
    refine jr_getr d_m_isGoodCall_11 f_m_10 rfl rfl ?_
    first | rw [m0] | skip
    refine jr_iload_n d_m_isGoodCall_14 rfl rfl ?_
    refine jv_V1r d_m_isGoodCall_15 l_m_126 k_aL_get ⟨Nat.le_of_ble_eq_true rfl, Nat.le_of_ble_eq_true rfl⟩ rfl rfl (Nat.le_of_ble_eq_true rfl) (ct_aL_getq hA.2.1 ha hd) (by first | decide | exact Nat.zero_le _ | (dsimp only; omega) | (dsimp only; grind)) (by first | decide | exact Nat.zero_le _ | (dsimp only; omega) | (dsimp only; grind)) ?_
    first | rw [m0] | skip
    refine jr_cast d_m_isGoodCall_18 c_m_37 rfl ⟨_, rfl, ca_mC_mC⟩ ?_
    refine jr_astore_n d_m_isGoodCall_21 rfl (Nat.le_of_ble_eq_true rfl) ?_
    refine jr_aload_n d_m_isGoodCall_22 rfl rfl ?_
    refine jr_geti d_m_isGoodCall_23 f_m_87 rfl ?_
    refine jr_iconst (v := 1) d_m_isGoodCall_26 (by decide) ?_
    refine jr_isub d_m_isGoodCall_27 ?_
    refine jr_istore_n d_m_isGoodCall_28 rfl (Nat.le_of_ble_eq_true rfl) ?_
    exact (by have e := lp_m_isGoodCall (live := live) (a := a) hc _ I hn hk hp8; rw [ep] at e; unfold q_gc; rw [if_pos hx]; exact e)
  · skip
    refine jr_iconst (v := 0) d_m_isGoodCall_8 (by decide) ?_
    exact jr_retX (v := some _) d_m_isGoodCall_9 (by first | exact Nat.le_refl _ | exact Nat.zero_le _ | (dsimp only; omega)) (by first | exact Nat.le_refl _ | exact Nat.zero_le _ | (dsimp only; omega)) (by first | with_reducible rfl | (dsimp only; (unfold q_gc; rw [if_neg (by clear hA; grind)]); done) | ((unfold q_gc; rw [if_neg (by clear hA; grind)]); done) | (exfalso; grind)) (by first | with_reducible rfl | (dsimp only; (unfold q_gc; rw [if_neg (by clear hA; grind)]); done) | ((unfold q_gc; rw [if_neg (by clear hA; grind)]); done) | (exfalso; grind)) (by first | with_reducible rfl | (dsimp only; (unfold q_gc; rw [if_neg (by clear hA; grind)]); done) | ((unfold q_gc; rw [if_neg (by clear hA; grind)]); done) | (exfalso; grind)) (by first | with_reducible rfl | (dsimp only; (unfold q_gc; rw [if_neg (by clear hA; grind)]); done) | ((unfold q_gc; rw [if_neg (by clear hA; grind)]); done) | (exfalso; grind))
def q_gs (I : jc_I) (c : Nat) (op a : Int32) : Int32 × jc_I :=
  if op = 0 then q_gv I 1 else if op = 1 ∨ op = 14 ∨ op = 25 then q_gv I 2
  else if op = 2 then (if 0 < I (10, 0, 0) 8 then q_and (q_tk I (I (51, 0, 0) (I (10, 0, 0) 8 - 1).toNatClampNeg)) q_1 else (0, I))
  else if op = 3 then (if 0 < I (10, 0, 0) 8 then q_and (q_gv I (I (51, 0, 0) (I (10, 0, 0) 8 - 1).toNatClampNeg)) q_1 else (0, I))
  else if op = 4 ∨ op = 5 ∨ op = 6 ∨ op = 7 ∨ op = 8 then q_and (q_tk I 1) (fun J => q_and (q_tk J 1) (fun J => q_and (q_gv J 1) q_1))
  else if op = 9 then (if 0 < q_lk I c a then q_and (q_gv I (q_lk I c a)) q_1 else (0, I))
  else if op = 10 then (if 0 < q_lk I c a then q_and (q_tk I (q_lk I c a)) q_1 else (0, I))
  else if op = 11 then (q_tg I c a, I)
  else if op = 12 then q_and (q_tk I 1) (fun J => (q_tg J c a, J))
  else if op = 13 then q_and (q_tk I 2) (fun J => (q_tg J c a, J))
  else if op = 15 ∨ op = 16 then q_and (q_tk I 2) (fun J => q_and (q_gv J 1) q_1)
  else if op = 17 then q_and (q_tk I 1) (fun J => q_and (q_tk J 2) q_1)
  else if op = 23 then q_and (q_tk I 2) (fun J => q_and (q_gv J 2) q_1)
  else if op = 24 then q_and (q_tk I 2) (fun J => q_and (q_tk J 2) q_1)
  else if op = 19 ∨ op = 20 ∨ op = 21 ∨ op = 26 then q_tk I 2
  else if op = 22 then q_and (q_tk I (I (11, c, 0) 1)) (fun J => (if J (10, 0, 0) 8 = 0 then 1 else 0, J))
  else q_gc I a
theorem q_and01 {r : Int32 × jc_I} {f : jc_I → Int32 × jc_I} (h : ∀ J, (f J).1 = 0 ∨ (f J).1 = 1) : (q_and r f).1 = 0 ∨ (q_and r f).1 = 1 := by
  unfold q_and
  split
  · exact Or.inl rfl
  · exact h _
theorem q01_ite {r s : Int32 × jc_I} {p : Prop} [Decidable p] (h1 : r.1 = 0 ∨ r.1 = 1) (h2 : s.1 = 0 ∨ s.1 = 1) : (if p then r else s).1 = 0 ∨ (if p then r else s).1 = 1 := by split; exact h1; exact h2
theorem q_gs01 {I : jc_I} {c : Nat} {op a : Int32} : (q_gs I c op a).1 = 0 ∨ (q_gs I c op a).1 = 1 := by
  have h1 : ∀ J, (q_1 J).1 = 0 ∨ (q_1 J).1 = 1 := fun _ => Or.inr rfl
  have h0 : ((0 : Int32), I).1 = 0 ∨ ((0 : Int32), I).1 = 1 := Or.inl rfl
  unfold q_gs
  refine q01_ite q_gv01 (q01_ite q_gv01 (q01_ite (q01_ite (q_and01 h1) h0) (q01_ite (q01_ite (q_and01 h1) h0) (q01_ite (q_and01 (fun _ => q_and01 (fun _ => q_and01 h1))) (q01_ite (q01_ite (q_and01 h1) h0) (q01_ite (q01_ite (q_and01 h1) h0) (q01_ite q_tg01 (q01_ite (q_and01 (fun _ => q_tg01)) (q01_ite (q_and01 (fun _ => q_tg01)) (q01_ite (q_and01 (fun _ => q_and01 h1)) (q01_ite (q_and01 (fun _ => q_and01 h1)) (q01_ite (q_and01 (fun _ => q_and01 h1)) (q01_ite (q_and01 (fun _ => q_and01 h1)) (q01_ite q_tk01 (q01_ite (q_and01 (fun J => ?_)) q_gc01)))))))))))))))
  by_cases h : J (10, 0, 0) 8 = 0
  · exact Or.inr (if_pos h)
  · exact Or.inl (if_neg h)
theorem q_101 : ∀ J, (q_1 J).1 = 0 ∨ (q_1 J).1 = 1 := fun _ => Or.inr rfl
theorem q_ct01 {c : Nat} {a : Int32} : ∀ J, ((fun J => (q_tg J c a, J)) J : Int32 × jc_I).1 = 0 ∨ ((fun J => (q_tg J c a, J)) J : Int32 × jc_I).1 = 1 := fun _ => q_tg01
theorem q_rt01 : ∀ J : jc_I, ((fun J => (if J (10, 0, 0) 8 = 0 then 1 else 0, J)) J : Int32 × jc_I).1 = 0 ∨ ((fun J => (if J (10, 0, 0) 8 = 0 then 1 else 0, J)) J : Int32 × jc_I).1 = 1 := by
  intro J
  by_cases h : J (10, 0, 0) 8 = 0
  · exact Or.inr (if_pos h)
  · exact Or.inl (if_neg h)
theorem ct_m_isGoodStep_0 {I : jc_I} {O : jc_O} {live : jc_L → Prop} {cn c : Nat} {op a : Int32} (hA : qA I O live cn) (hk : qk I O) (hc : qc O c) (hn : qn I c) (ho : op = 0) : jc_Ct y_m_isGoodStep [.inr (some (10, 0, 0)), .inr (some (11, c, 0)), .inl op, .inl a] I O live (some (.inl (q_gv I 1).1), (q_gv I 1).2, O, live, 0, 0) := by
  obtain ⟨m0, m2, m4, m6, m7⟩ := id hA.1
  obtain ⟨k1, k2, k3⟩ := id hk
  refine jc_Ct.of (by decide +kernel) (Or.inr ⟨rfl, q_gv01⟩) (Nat.le_of_ble_eq_true rfl) ?_
  refine jr_iload_n d_m_isGoodStep_0 rfl rfl ?_
  refine jr_tableIn (tgt := 124) d_m_isGoodStep_1 (by rcases ho with rfl <;> decide) (by rcases ho with rfl <;> decide) (by rcases ho with rfl <;> rfl) (by decide) ?_
  refine jr_aload_n d_m_isGoodStep_124 rfl rfl ?_
  refine jr_iconst (v := 1) d_m_isGoodStep_125 (by decide) ?_
  refine jv_V1r d_m_isGoodStep_126 l_m_103 k_m_gives ⟨Nat.le_of_ble_eq_true rfl, Nat.le_of_ble_eq_true rfl⟩ rfl rfl (Nat.le_of_ble_eq_true rfl) (ct_m_gives (by first | with_reducible exact hk | with_reducible exact hk.tk | with_reducible exact hk.tk.tk | with_reducible exact hk.gv)) (by first | decide | exact Nat.zero_le _ | (dsimp only; omega) | (dsimp only; clear hA hc hn; grind)) (by first | decide | exact Nat.zero_le _ | (dsimp only; omega) | (dsimp only; clear hA hc hn; grind)) ?_
  exact jr_retX (v := some _) d_m_isGoodStep_129 (by first | exact Nat.le_refl _ | exact Nat.zero_le _ | (dsimp only; omega)) (by first | exact Nat.le_refl _ | exact Nat.zero_le _ | (dsimp only; omega)) (by first | with_reducible rfl | (dsimp only; rfl; done) | (rfl; done) | (exfalso; clear hA hc hn; grind)) (by first | with_reducible rfl | (dsimp only; rfl; done) | (rfl; done) | (exfalso; clear hA hc hn; grind)) (by first | with_reducible rfl | (dsimp only; rfl; done) | (rfl; done) | (exfalso; clear hA hc hn; grind)) (by first | with_reducible rfl | (dsimp only; rfl; done) | (rfl; done) | (exfalso; clear hA hc hn; grind))
theorem ct_m_isGoodStep_1 {I : jc_I} {O : jc_O} {live : jc_L → Prop} {cn c : Nat} {op a : Int32} (hA : qA I O live cn) (hk : qk I O) (hc : qc O c) (hn : qn I c) (ho : op = 1 ∨ op = 14 ∨ op = 25) : jc_Ct y_m_isGoodStep [.inr (some (10, 0, 0)), .inr (some (11, c, 0)), .inl op, .inl a] I O live (some (.inl (q_gv I 2).1), (q_gv I 2).2, O, live, 0, 0) := by
  obtain ⟨m0, m2, m4, m6, m7⟩ := id hA.1
  obtain ⟨k1, k2, k3⟩ := id hk
  refine jc_Ct.of (by decide +kernel) (Or.inr ⟨rfl, q_gv01⟩) (Nat.le_of_ble_eq_true rfl) ?_
  refine jr_iload_n d_m_isGoodStep_0 rfl rfl ?_
  refine jr_tableIn (tgt := 130) d_m_isGoodStep_1 (by rcases ho with rfl | rfl | rfl <;> decide) (by rcases ho with rfl | rfl | rfl <;> decide) (by rcases ho with rfl | rfl | rfl <;> rfl) (by decide) ?_
  refine jr_aload_n d_m_isGoodStep_130 rfl rfl ?_
  refine jr_iconst (v := 2) d_m_isGoodStep_131 (by decide) ?_
  refine jv_V1r d_m_isGoodStep_132 l_m_103 k_m_gives ⟨Nat.le_of_ble_eq_true rfl, Nat.le_of_ble_eq_true rfl⟩ rfl rfl (Nat.le_of_ble_eq_true rfl) (ct_m_gives (by first | with_reducible exact hk | with_reducible exact hk.tk | with_reducible exact hk.tk.tk | with_reducible exact hk.gv)) (by first | decide | exact Nat.zero_le _ | (dsimp only; omega) | (dsimp only; clear hA hc hn; grind)) (by first | decide | exact Nat.zero_le _ | (dsimp only; omega) | (dsimp only; clear hA hc hn; grind)) ?_
  exact jr_retX (v := some _) d_m_isGoodStep_135 (by first | exact Nat.le_refl _ | exact Nat.zero_le _ | (dsimp only; omega)) (by first | exact Nat.le_refl _ | exact Nat.zero_le _ | (dsimp only; omega)) (by first | with_reducible rfl | (dsimp only; rfl; done) | (rfl; done) | (exfalso; clear hA hc hn; grind)) (by first | with_reducible rfl | (dsimp only; rfl; done) | (rfl; done) | (exfalso; clear hA hc hn; grind)) (by first | with_reducible rfl | (dsimp only; rfl; done) | (rfl; done) | (exfalso; clear hA hc hn; grind)) (by first | with_reducible rfl | (dsimp only; rfl; done) | (rfl; done) | (exfalso; clear hA hc hn; grind))
theorem ct_m_isGoodStep_2 {I : jc_I} {O : jc_O} {live : jc_L → Prop} {cn c : Nat} {op a : Int32} (hA : qA I O live cn) (hk : qk I O) (hc : qc O c) (hn : qn I c) (ho : op = 2) : jc_Ct y_m_isGoodStep [.inr (some (10, 0, 0)), .inr (some (11, c, 0)), .inl op, .inl a] I O live (some (.inl (if 0 < I (10, 0, 0) 8 then q_and (q_tk I (I (51, 0, 0) (I (10, 0, 0) 8 - 1).toNatClampNeg)) q_1 else (0, I)).1), (if 0 < I (10, 0, 0) 8 then q_and (q_tk I (I (51, 0, 0) (I (10, 0, 0) 8 - 1).toNatClampNeg)) q_1 else (0, I)).2, O, live, 0, 0) := by
  obtain ⟨m0, m2, m4, m6, m7⟩ := id hA.1
  obtain ⟨k1, k2, k3⟩ := id hk
  refine jc_Ct.of (by decide +kernel) (Or.inr ⟨rfl, q01_ite (q_and01 q_101) (Or.inl rfl)⟩) (Nat.le_of_ble_eq_true rfl) ?_
  refine jr_iload_n d_m_isGoodStep_0 rfl rfl ?_
  refine jr_tableIn (tgt := 136) d_m_isGoodStep_1 (by rcases ho with rfl <;> decide) (by rcases ho with rfl <;> decide) (by rcases ho with rfl <;> rfl) (by decide) ?_
  refine jr_aload_n d_m_isGoodStep_136 rfl rfl ?_
  refine jr_geti d_m_isGoodStep_137 f_m_84 rfl ?_
  refine jr_if_le (tgt := 165) d_m_isGoodStep_140 (by decide) (fun c140 => ?_) (fun c140 => ?_)
  · skip
    refine jr_iconst (v := 0) d_m_isGoodStep_165 (by decide) ?_
    exact jr_retX (v := some _) d_m_isGoodStep_166 (by first | exact Nat.le_refl _ | exact Nat.zero_le _ | (dsimp only; omega)) (by first | exact Nat.le_refl _ | exact Nat.zero_le _ | (dsimp only; omega)) (by first | with_reducible rfl | (dsimp only; (clear hA hc hn; unfold q_and; grind); done) | ((clear hA hc hn; unfold q_and; grind); done) | (exfalso; clear hA hc hn; grind)) (by first | with_reducible rfl | (dsimp only; (clear hA hc hn; unfold q_and; grind); done) | ((clear hA hc hn; unfold q_and; grind); done) | (exfalso; clear hA hc hn; grind)) (by first | with_reducible rfl | (dsimp only; (clear hA hc hn; unfold q_and; grind); done) | ((clear hA hc hn; unfold q_and; grind); done) | (exfalso; clear hA hc hn; grind)) (by first | with_reducible rfl | (dsimp only; (clear hA hc hn; unfold q_and; grind); done) | ((clear hA hc hn; unfold q_and; grind); done) | (exfalso; clear hA hc hn; grind))
  · skip
    refine jr_aload_n d_m_isGoodStep_143 rfl rfl ?_
    refine jr_aload_n d_m_isGoodStep_144 rfl rfl ?_
    refine jr_getr d_m_isGoodStep_145 f_m_26 rfl rfl ?_
    first | rw [m7] | skip
    refine jr_aload_n d_m_isGoodStep_148 rfl rfl ?_
    refine jr_geti d_m_isGoodStep_149 f_m_84 rfl ?_
    refine jr_iconst (v := 1) d_m_isGoodStep_152 (by decide) ?_
    refine jr_isub d_m_isGoodStep_153 ?_
    refine jr_iald d_m_isGoodStep_154 rfl rfl rfl (jin1 (by clear hA hc hn; grind) k3) ?_
    refine jv_V1r d_m_isGoodStep_155 l_m_106 k_m_takes ⟨Nat.le_of_ble_eq_true rfl, Nat.le_of_ble_eq_true rfl⟩ rfl rfl (Nat.le_of_ble_eq_true rfl) (ct_m_takes (by first | with_reducible exact hk | with_reducible exact hk.tk | with_reducible exact hk.tk.tk | with_reducible exact hk.gv)) (by first | decide | exact Nat.zero_le _ | (dsimp only; omega) | (dsimp only; clear hA hc hn; grind)) (by first | decide | exact Nat.zero_le _ | (dsimp only; omega) | (dsimp only; clear hA hc hn; grind)) ?_
    refine jr_if_eq (tgt := 165) d_m_isGoodStep_158 (by decide) (fun c158 => ?_) (fun c158 => ?_)
    · skip
      refine jr_iconst (v := 0) d_m_isGoodStep_165 (by decide) ?_
      exact jr_retX (v := some _) d_m_isGoodStep_166 (by first | exact Nat.le_refl _ | exact Nat.zero_le _ | (dsimp only; omega)) (by first | exact Nat.le_refl _ | exact Nat.zero_le _ | (dsimp only; omega)) (by first | with_reducible rfl | (dsimp only; (clear hA hc hn; unfold q_and; grind); done) | ((clear hA hc hn; unfold q_and; grind); done) | (exfalso; clear hA hc hn; grind)) (by first | with_reducible rfl | (dsimp only; (clear hA hc hn; unfold q_and; grind); done) | ((clear hA hc hn; unfold q_and; grind); done) | (exfalso; clear hA hc hn; grind)) (by first | with_reducible rfl | (dsimp only; (clear hA hc hn; unfold q_and; grind); done) | ((clear hA hc hn; unfold q_and; grind); done) | (exfalso; clear hA hc hn; grind)) (by first | with_reducible rfl | (dsimp only; (clear hA hc hn; unfold q_and; grind); done) | ((clear hA hc hn; unfold q_and; grind); done) | (exfalso; clear hA hc hn; grind))
    · skip
      refine jr_iconst (v := 1) d_m_isGoodStep_161 (by decide) ?_
      refine jr_goto (tgt := 166) d_m_isGoodStep_162 (by decide) ?_
      exact jr_retX (v := some _) d_m_isGoodStep_166 (by first | exact Nat.le_refl _ | exact Nat.zero_le _ | (dsimp only; omega)) (by first | exact Nat.le_refl _ | exact Nat.zero_le _ | (dsimp only; omega)) (by first | with_reducible rfl | (dsimp only; (clear hA hc hn; unfold q_and; grind); done) | ((clear hA hc hn; unfold q_and; grind); done) | (exfalso; clear hA hc hn; grind)) (by first | with_reducible rfl | (dsimp only; (clear hA hc hn; unfold q_and; grind); done) | ((clear hA hc hn; unfold q_and; grind); done) | (exfalso; clear hA hc hn; grind)) (by first | with_reducible rfl | (dsimp only; (clear hA hc hn; unfold q_and; grind); done) | ((clear hA hc hn; unfold q_and; grind); done) | (exfalso; clear hA hc hn; grind)) (by first | with_reducible rfl | (dsimp only; (clear hA hc hn; unfold q_and; grind); done) | ((clear hA hc hn; unfold q_and; grind); done) | (exfalso; clear hA hc hn; grind))
theorem ct_m_isGoodStep_3 {I : jc_I} {O : jc_O} {live : jc_L → Prop} {cn c : Nat} {op a : Int32} (hA : qA I O live cn) (hk : qk I O) (hc : qc O c) (hn : qn I c) (ho : op = 3) : jc_Ct y_m_isGoodStep [.inr (some (10, 0, 0)), .inr (some (11, c, 0)), .inl op, .inl a] I O live (some (.inl (if 0 < I (10, 0, 0) 8 then q_and (q_gv I (I (51, 0, 0) (I (10, 0, 0) 8 - 1).toNatClampNeg)) q_1 else (0, I)).1), (if 0 < I (10, 0, 0) 8 then q_and (q_gv I (I (51, 0, 0) (I (10, 0, 0) 8 - 1).toNatClampNeg)) q_1 else (0, I)).2, O, live, 0, 0) := by
  obtain ⟨m0, m2, m4, m6, m7⟩ := id hA.1
  obtain ⟨k1, k2, k3⟩ := id hk
  refine jc_Ct.of (by decide +kernel) (Or.inr ⟨rfl, q01_ite (q_and01 q_101) (Or.inl rfl)⟩) (Nat.le_of_ble_eq_true rfl) ?_
  refine jr_iload_n d_m_isGoodStep_0 rfl rfl ?_
  refine jr_tableIn (tgt := 167) d_m_isGoodStep_1 (by rcases ho with rfl <;> decide) (by rcases ho with rfl <;> decide) (by rcases ho with rfl <;> rfl) (by decide) ?_
  refine jr_aload_n d_m_isGoodStep_167 rfl rfl ?_
  refine jr_geti d_m_isGoodStep_168 f_m_84 rfl ?_
  refine jr_if_le (tgt := 196) d_m_isGoodStep_171 (by decide) (fun c171 => ?_) (fun c171 => ?_)
  · skip
    refine jr_iconst (v := 0) d_m_isGoodStep_196 (by decide) ?_
    exact jr_retX (v := some _) d_m_isGoodStep_197 (by first | exact Nat.le_refl _ | exact Nat.zero_le _ | (dsimp only; omega)) (by first | exact Nat.le_refl _ | exact Nat.zero_le _ | (dsimp only; omega)) (by first | with_reducible rfl | (dsimp only; (clear hA hc hn; unfold q_and; grind); done) | ((clear hA hc hn; unfold q_and; grind); done) | (exfalso; clear hA hc hn; grind)) (by first | with_reducible rfl | (dsimp only; (clear hA hc hn; unfold q_and; grind); done) | ((clear hA hc hn; unfold q_and; grind); done) | (exfalso; clear hA hc hn; grind)) (by first | with_reducible rfl | (dsimp only; (clear hA hc hn; unfold q_and; grind); done) | ((clear hA hc hn; unfold q_and; grind); done) | (exfalso; clear hA hc hn; grind)) (by first | with_reducible rfl | (dsimp only; (clear hA hc hn; unfold q_and; grind); done) | ((clear hA hc hn; unfold q_and; grind); done) | (exfalso; clear hA hc hn; grind))
  · skip
    refine jr_aload_n d_m_isGoodStep_174 rfl rfl ?_
    refine jr_aload_n d_m_isGoodStep_175 rfl rfl ?_
    refine jr_getr d_m_isGoodStep_176 f_m_26 rfl rfl ?_
    first | rw [m7] | skip
    refine jr_aload_n d_m_isGoodStep_179 rfl rfl ?_
    refine jr_geti d_m_isGoodStep_180 f_m_84 rfl ?_
    refine jr_iconst (v := 1) d_m_isGoodStep_183 (by decide) ?_
    refine jr_isub d_m_isGoodStep_184 ?_
    refine jr_iald d_m_isGoodStep_185 rfl rfl rfl (jin1 (by clear hA hc hn; grind) k3) ?_
    refine jv_V1r d_m_isGoodStep_186 l_m_103 k_m_gives ⟨Nat.le_of_ble_eq_true rfl, Nat.le_of_ble_eq_true rfl⟩ rfl rfl (Nat.le_of_ble_eq_true rfl) (ct_m_gives (by first | with_reducible exact hk | with_reducible exact hk.tk | with_reducible exact hk.tk.tk | with_reducible exact hk.gv)) (by first | decide | exact Nat.zero_le _ | (dsimp only; omega) | (dsimp only; clear hA hc hn; grind)) (by first | decide | exact Nat.zero_le _ | (dsimp only; omega) | (dsimp only; clear hA hc hn; grind)) ?_
    refine jr_if_eq (tgt := 196) d_m_isGoodStep_189 (by decide) (fun c189 => ?_) (fun c189 => ?_)
    · skip
      refine jr_iconst (v := 0) d_m_isGoodStep_196 (by decide) ?_
      exact jr_retX (v := some _) d_m_isGoodStep_197 (by first | exact Nat.le_refl _ | exact Nat.zero_le _ | (dsimp only; omega)) (by first | exact Nat.le_refl _ | exact Nat.zero_le _ | (dsimp only; omega)) (by first | with_reducible rfl | (dsimp only; (clear hA hc hn; unfold q_and; grind); done) | ((clear hA hc hn; unfold q_and; grind); done) | (exfalso; clear hA hc hn; grind)) (by first | with_reducible rfl | (dsimp only; (clear hA hc hn; unfold q_and; grind); done) | ((clear hA hc hn; unfold q_and; grind); done) | (exfalso; clear hA hc hn; grind)) (by first | with_reducible rfl | (dsimp only; (clear hA hc hn; unfold q_and; grind); done) | ((clear hA hc hn; unfold q_and; grind); done) | (exfalso; clear hA hc hn; grind)) (by first | with_reducible rfl | (dsimp only; (clear hA hc hn; unfold q_and; grind); done) | ((clear hA hc hn; unfold q_and; grind); done) | (exfalso; clear hA hc hn; grind))
    · skip
      refine jr_iconst (v := 1) d_m_isGoodStep_192 (by decide) ?_
      refine jr_goto (tgt := 197) d_m_isGoodStep_193 (by decide) ?_
      exact jr_retX (v := some _) d_m_isGoodStep_197 (by first | exact Nat.le_refl _ | exact Nat.zero_le _ | (dsimp only; omega)) (by first | exact Nat.le_refl _ | exact Nat.zero_le _ | (dsimp only; omega)) (by first | with_reducible rfl | (dsimp only; (clear hA hc hn; unfold q_and; grind); done) | ((clear hA hc hn; unfold q_and; grind); done) | (exfalso; clear hA hc hn; grind)) (by first | with_reducible rfl | (dsimp only; (clear hA hc hn; unfold q_and; grind); done) | ((clear hA hc hn; unfold q_and; grind); done) | (exfalso; clear hA hc hn; grind)) (by first | with_reducible rfl | (dsimp only; (clear hA hc hn; unfold q_and; grind); done) | ((clear hA hc hn; unfold q_and; grind); done) | (exfalso; clear hA hc hn; grind)) (by first | with_reducible rfl | (dsimp only; (clear hA hc hn; unfold q_and; grind); done) | ((clear hA hc hn; unfold q_and; grind); done) | (exfalso; clear hA hc hn; grind))
theorem ct_m_isGoodStep_4 {I : jc_I} {O : jc_O} {live : jc_L → Prop} {cn c : Nat} {op a : Int32} (hA : qA I O live cn) (hk : qk I O) (hc : qc O c) (hn : qn I c) (ho : op = 4 ∨ op = 5 ∨ op = 6 ∨ op = 7 ∨ op = 8) : jc_Ct y_m_isGoodStep [.inr (some (10, 0, 0)), .inr (some (11, c, 0)), .inl op, .inl a] I O live (some (.inl (q_and (q_tk I 1) (fun J => q_and (q_tk J 1) (fun J => q_and (q_gv J 1) q_1))).1), (q_and (q_tk I 1) (fun J => q_and (q_tk J 1) (fun J => q_and (q_gv J 1) q_1))).2, O, live, 0, 0) := by
  obtain ⟨m0, m2, m4, m6, m7⟩ := id hA.1
  obtain ⟨k1, k2, k3⟩ := id hk
  refine jc_Ct.of (by decide +kernel) (Or.inr ⟨rfl, q_and01 (fun _ => q_and01 (fun _ => q_and01 q_101))⟩) (Nat.le_of_ble_eq_true rfl) ?_
  refine jr_iload_n d_m_isGoodStep_0 rfl rfl ?_
  refine jr_tableIn (tgt := 198) d_m_isGoodStep_1 (by rcases ho with rfl | rfl | rfl | rfl | rfl <;> decide) (by rcases ho with rfl | rfl | rfl | rfl | rfl <;> decide) (by rcases ho with rfl | rfl | rfl | rfl | rfl <;> rfl) (by decide) ?_
  refine jr_aload_n d_m_isGoodStep_198 rfl rfl ?_
  refine jr_iconst (v := 1) d_m_isGoodStep_199 (by decide) ?_
  refine jv_V1r d_m_isGoodStep_200 l_m_106 k_m_takes ⟨Nat.le_of_ble_eq_true rfl, Nat.le_of_ble_eq_true rfl⟩ rfl rfl (Nat.le_of_ble_eq_true rfl) (ct_m_takes (by first | with_reducible exact hk | with_reducible exact hk.tk | with_reducible exact hk.tk.tk | with_reducible exact hk.gv)) (by first | decide | exact Nat.zero_le _ | (dsimp only; omega) | (dsimp only; clear hA hc hn; grind)) (by first | decide | exact Nat.zero_le _ | (dsimp only; omega) | (dsimp only; clear hA hc hn; grind)) ?_
  refine jr_if_eq (tgt := 226) d_m_isGoodStep_203 (by decide) (fun c203 => ?_) (fun c203 => ?_)
  · skip
    refine jr_iconst (v := 0) d_m_isGoodStep_226 (by decide) ?_
    exact jr_retX (v := some _) d_m_isGoodStep_227 (by first | exact Nat.le_refl _ | exact Nat.zero_le _ | (dsimp only; omega)) (by first | exact Nat.le_refl _ | exact Nat.zero_le _ | (dsimp only; omega)) (by first | with_reducible rfl | (dsimp only; (unfold q_and; (try dsimp only); (try rw [if_pos c203]); (try rw [if_neg c203]); (try dsimp only)); done) | ((unfold q_and; (try dsimp only); (try rw [if_pos c203]); (try rw [if_neg c203]); (try dsimp only)); done) | (exfalso; clear hA hc hn; grind)) (by first | with_reducible rfl | (dsimp only; (unfold q_and; (try dsimp only); (try rw [if_pos c203]); (try rw [if_neg c203]); (try dsimp only)); done) | ((unfold q_and; (try dsimp only); (try rw [if_pos c203]); (try rw [if_neg c203]); (try dsimp only)); done) | (exfalso; clear hA hc hn; grind)) (by first | with_reducible rfl | (dsimp only; (unfold q_and; (try dsimp only); (try rw [if_pos c203]); (try rw [if_neg c203]); (try dsimp only)); done) | ((unfold q_and; (try dsimp only); (try rw [if_pos c203]); (try rw [if_neg c203]); (try dsimp only)); done) | (exfalso; clear hA hc hn; grind)) (by first | with_reducible rfl | (dsimp only; (unfold q_and; (try dsimp only); (try rw [if_pos c203]); (try rw [if_neg c203]); (try dsimp only)); done) | ((unfold q_and; (try dsimp only); (try rw [if_pos c203]); (try rw [if_neg c203]); (try dsimp only)); done) | (exfalso; clear hA hc hn; grind))
  · skip
    refine jr_aload_n d_m_isGoodStep_206 rfl rfl ?_
    refine jr_iconst (v := 1) d_m_isGoodStep_207 (by decide) ?_
    refine jv_V1r d_m_isGoodStep_208 l_m_106 k_m_takes ⟨Nat.le_of_ble_eq_true rfl, Nat.le_of_ble_eq_true rfl⟩ rfl rfl (Nat.le_of_ble_eq_true rfl) (ct_m_takes (by first | with_reducible exact hk | with_reducible exact hk.tk | with_reducible exact hk.tk.tk | with_reducible exact hk.gv)) (by first | decide | exact Nat.zero_le _ | (dsimp only; omega) | (dsimp only; clear hA hc hn; grind)) (by first | decide | exact Nat.zero_le _ | (dsimp only; omega) | (dsimp only; clear hA hc hn; grind)) ?_
    refine jr_if_eq (tgt := 226) d_m_isGoodStep_211 (by decide) (fun c211 => ?_) (fun c211 => ?_)
    · skip
      refine jr_iconst (v := 0) d_m_isGoodStep_226 (by decide) ?_
      exact jr_retX (v := some _) d_m_isGoodStep_227 (by first | exact Nat.le_refl _ | exact Nat.zero_le _ | (dsimp only; omega)) (by first | exact Nat.le_refl _ | exact Nat.zero_le _ | (dsimp only; omega)) (by first | with_reducible rfl | (dsimp only; (unfold q_and; (try dsimp only); (try rw [if_pos c203]); (try rw [if_neg c203]); (try dsimp only); (try rw [if_pos c211]); (try rw [if_neg c211]); (try dsimp only)); done) | ((unfold q_and; (try dsimp only); (try rw [if_pos c203]); (try rw [if_neg c203]); (try dsimp only); (try rw [if_pos c211]); (try rw [if_neg c211]); (try dsimp only)); done) | (exfalso; clear hA hc hn; grind)) (by first | with_reducible rfl | (dsimp only; (unfold q_and; (try dsimp only); (try rw [if_pos c203]); (try rw [if_neg c203]); (try dsimp only); (try rw [if_pos c211]); (try rw [if_neg c211]); (try dsimp only)); done) | ((unfold q_and; (try dsimp only); (try rw [if_pos c203]); (try rw [if_neg c203]); (try dsimp only); (try rw [if_pos c211]); (try rw [if_neg c211]); (try dsimp only)); done) | (exfalso; clear hA hc hn; grind)) (by first | with_reducible rfl | (dsimp only; (unfold q_and; (try dsimp only); (try rw [if_pos c203]); (try rw [if_neg c203]); (try dsimp only); (try rw [if_pos c211]); (try rw [if_neg c211]); (try dsimp only)); done) | ((unfold q_and; (try dsimp only); (try rw [if_pos c203]); (try rw [if_neg c203]); (try dsimp only); (try rw [if_pos c211]); (try rw [if_neg c211]); (try dsimp only)); done) | (exfalso; clear hA hc hn; grind)) (by first | with_reducible rfl | (dsimp only; (unfold q_and; (try dsimp only); (try rw [if_pos c203]); (try rw [if_neg c203]); (try dsimp only); (try rw [if_pos c211]); (try rw [if_neg c211]); (try dsimp only)); done) | ((unfold q_and; (try dsimp only); (try rw [if_pos c203]); (try rw [if_neg c203]); (try dsimp only); (try rw [if_pos c211]); (try rw [if_neg c211]); (try dsimp only)); done) | (exfalso; clear hA hc hn; grind))
    · skip
      refine jr_aload_n d_m_isGoodStep_214 rfl rfl ?_
      refine jr_iconst (v := 1) d_m_isGoodStep_215 (by decide) ?_
      refine jv_V1r d_m_isGoodStep_216 l_m_103 k_m_gives ⟨Nat.le_of_ble_eq_true rfl, Nat.le_of_ble_eq_true rfl⟩ rfl rfl (Nat.le_of_ble_eq_true rfl) (ct_m_gives (by first | with_reducible exact hk | with_reducible exact hk.tk | with_reducible exact hk.tk.tk | with_reducible exact hk.gv)) (by first | decide | exact Nat.zero_le _ | (dsimp only; omega) | (dsimp only; clear hA hc hn; grind)) (by first | decide | exact Nat.zero_le _ | (dsimp only; omega) | (dsimp only; clear hA hc hn; grind)) ?_
      refine jr_if_eq (tgt := 226) d_m_isGoodStep_219 (by decide) (fun c219 => ?_) (fun c219 => ?_)
      · skip
        refine jr_iconst (v := 0) d_m_isGoodStep_226 (by decide) ?_
        exact jr_retX (v := some _) d_m_isGoodStep_227 (by first | exact Nat.le_refl _ | exact Nat.zero_le _ | (dsimp only; omega)) (by first | exact Nat.le_refl _ | exact Nat.zero_le _ | (dsimp only; omega)) (by first | with_reducible rfl | (dsimp only; (unfold q_and; (try dsimp only); (try rw [if_pos c203]); (try rw [if_neg c203]); (try dsimp only); (try rw [if_pos c211]); (try rw [if_neg c211]); (try dsimp only); (try rw [if_pos c219]); (try rw [if_neg c219]); (try dsimp only)); done) | ((unfold q_and; (try dsimp only); (try rw [if_pos c203]); (try rw [if_neg c203]); (try dsimp only); (try rw [if_pos c211]); (try rw [if_neg c211]); (try dsimp only); (try rw [if_pos c219]); (try rw [if_neg c219]); (try dsimp only)); done) | (exfalso; clear hA hc hn; grind)) (by first | with_reducible rfl | (dsimp only; (unfold q_and; (try dsimp only); (try rw [if_pos c203]); (try rw [if_neg c203]); (try dsimp only); (try rw [if_pos c211]); (try rw [if_neg c211]); (try dsimp only); (try rw [if_pos c219]); (try rw [if_neg c219]); (try dsimp only)); done) | ((unfold q_and; (try dsimp only); (try rw [if_pos c203]); (try rw [if_neg c203]); (try dsimp only); (try rw [if_pos c211]); (try rw [if_neg c211]); (try dsimp only); (try rw [if_pos c219]); (try rw [if_neg c219]); (try dsimp only)); done) | (exfalso; clear hA hc hn; grind)) (by first | with_reducible rfl | (dsimp only; (unfold q_and; (try dsimp only); (try rw [if_pos c203]); (try rw [if_neg c203]); (try dsimp only); (try rw [if_pos c211]); (try rw [if_neg c211]); (try dsimp only); (try rw [if_pos c219]); (try rw [if_neg c219]); (try dsimp only)); done) | ((unfold q_and; (try dsimp only); (try rw [if_pos c203]); (try rw [if_neg c203]); (try dsimp only); (try rw [if_pos c211]); (try rw [if_neg c211]); (try dsimp only); (try rw [if_pos c219]); (try rw [if_neg c219]); (try dsimp only)); done) | (exfalso; clear hA hc hn; grind)) (by first | with_reducible rfl | (dsimp only; (unfold q_and; (try dsimp only); (try rw [if_pos c203]); (try rw [if_neg c203]); (try dsimp only); (try rw [if_pos c211]); (try rw [if_neg c211]); (try dsimp only); (try rw [if_pos c219]); (try rw [if_neg c219]); (try dsimp only)); done) | ((unfold q_and; (try dsimp only); (try rw [if_pos c203]); (try rw [if_neg c203]); (try dsimp only); (try rw [if_pos c211]); (try rw [if_neg c211]); (try dsimp only); (try rw [if_pos c219]); (try rw [if_neg c219]); (try dsimp only)); done) | (exfalso; clear hA hc hn; grind))
      · skip
        refine jr_iconst (v := 1) d_m_isGoodStep_222 (by decide) ?_
        refine jr_goto (tgt := 227) d_m_isGoodStep_223 (by decide) ?_
        exact jr_retX (v := some _) d_m_isGoodStep_227 (by first | exact Nat.le_refl _ | exact Nat.zero_le _ | (dsimp only; omega)) (by first | exact Nat.le_refl _ | exact Nat.zero_le _ | (dsimp only; omega)) (by first | with_reducible rfl | (dsimp only; (unfold q_and; (try dsimp only); (try rw [if_pos c203]); (try rw [if_neg c203]); (try dsimp only); (try rw [if_pos c211]); (try rw [if_neg c211]); (try dsimp only); (try rw [if_pos c219]); (try rw [if_neg c219]); (try dsimp only)); done) | ((unfold q_and; (try dsimp only); (try rw [if_pos c203]); (try rw [if_neg c203]); (try dsimp only); (try rw [if_pos c211]); (try rw [if_neg c211]); (try dsimp only); (try rw [if_pos c219]); (try rw [if_neg c219]); (try dsimp only)); done) | (exfalso; clear hA hc hn; grind)) (by first | with_reducible rfl | (dsimp only; (unfold q_and; (try dsimp only); (try rw [if_pos c203]); (try rw [if_neg c203]); (try dsimp only); (try rw [if_pos c211]); (try rw [if_neg c211]); (try dsimp only); (try rw [if_pos c219]); (try rw [if_neg c219]); (try dsimp only)); done) | ((unfold q_and; (try dsimp only); (try rw [if_pos c203]); (try rw [if_neg c203]); (try dsimp only); (try rw [if_pos c211]); (try rw [if_neg c211]); (try dsimp only); (try rw [if_pos c219]); (try rw [if_neg c219]); (try dsimp only)); done) | (exfalso; clear hA hc hn; grind)) (by first | with_reducible rfl | (dsimp only; (unfold q_and; (try dsimp only); (try rw [if_pos c203]); (try rw [if_neg c203]); (try dsimp only); (try rw [if_pos c211]); (try rw [if_neg c211]); (try dsimp only); (try rw [if_pos c219]); (try rw [if_neg c219]); (try dsimp only)); done) | ((unfold q_and; (try dsimp only); (try rw [if_pos c203]); (try rw [if_neg c203]); (try dsimp only); (try rw [if_pos c211]); (try rw [if_neg c211]); (try dsimp only); (try rw [if_pos c219]); (try rw [if_neg c219]); (try dsimp only)); done) | (exfalso; clear hA hc hn; grind)) (by first | with_reducible rfl | (dsimp only; (unfold q_and; (try dsimp only); (try rw [if_pos c203]); (try rw [if_neg c203]); (try dsimp only); (try rw [if_pos c211]); (try rw [if_neg c211]); (try dsimp only); (try rw [if_pos c219]); (try rw [if_neg c219]); (try dsimp only)); done) | ((unfold q_and; (try dsimp only); (try rw [if_pos c203]); (try rw [if_neg c203]); (try dsimp only); (try rw [if_pos c211]); (try rw [if_neg c211]); (try dsimp only); (try rw [if_pos c219]); (try rw [if_neg c219]); (try dsimp only)); done) | (exfalso; clear hA hc hn; grind))
theorem ct_m_isGoodStep_9 {I : jc_I} {O : jc_O} {live : jc_L → Prop} {cn c : Nat} {op a : Int32} (hA : qA I O live cn) (hk : qk I O) (hc : qc O c) (hn : qn I c) (ho : op = 9) : jc_Ct y_m_isGoodStep [.inr (some (10, 0, 0)), .inr (some (11, c, 0)), .inl op, .inl a] I O live (some (.inl (if 0 < q_lk I c a then q_and (q_gv I (q_lk I c a)) q_1 else (0, I)).1), (if 0 < q_lk I c a then q_and (q_gv I (q_lk I c a)) q_1 else (0, I)).2, O, live, 0, 0) := by
  obtain ⟨m0, m2, m4, m6, m7⟩ := id hA.1
  obtain ⟨k1, k2, k3⟩ := id hk
  refine jc_Ct.of (by decide +kernel) (Or.inr ⟨rfl, q01_ite (q_and01 q_101) (Or.inl rfl)⟩) (Nat.le_of_ble_eq_true rfl) ?_
  refine jr_iload_n d_m_isGoodStep_0 rfl rfl ?_
  refine jr_tableIn (tgt := 228) d_m_isGoodStep_1 (by rcases ho with rfl <;> decide) (by rcases ho with rfl <;> decide) (by rcases ho with rfl <;> rfl) (by decide) ?_
  refine jr_aload_n d_m_isGoodStep_228 rfl rfl ?_
  refine jr_iload_n d_m_isGoodStep_229 rfl rfl ?_
  refine jv_S2r d_m_isGoodStep_230 l_m_109 k_m_kindOf ⟨Nat.le_of_ble_eq_true rfl, Nat.le_of_ble_eq_true rfl⟩ (Nat.le_of_ble_eq_true rfl) (ct_m_kindOf hc hn) (by first | decide | exact Nat.zero_le _ | (dsimp only; omega) | (dsimp only; clear hA hc hn; grind)) (by first | decide | exact Nat.zero_le _ | (dsimp only; omega) | (dsimp only; clear hA hc hn; grind)) ?_
  refine jr_if_le (tgt := 252) d_m_isGoodStep_233 (by decide) (fun c233 => ?_) (fun c233 => ?_)
  · skip
    refine jr_iconst (v := 0) d_m_isGoodStep_252 (by decide) ?_
    exact jr_retX (v := some _) d_m_isGoodStep_253 (by first | exact Nat.le_refl _ | exact Nat.zero_le _ | (dsimp only; omega)) (by first | exact Nat.le_refl _ | exact Nat.zero_le _ | (dsimp only; omega)) (by first | with_reducible rfl | (dsimp only; (clear hA hc hn; unfold q_and; grind); done) | ((clear hA hc hn; unfold q_and; grind); done) | (exfalso; clear hA hc hn; grind)) (by first | with_reducible rfl | (dsimp only; (clear hA hc hn; unfold q_and; grind); done) | ((clear hA hc hn; unfold q_and; grind); done) | (exfalso; clear hA hc hn; grind)) (by first | with_reducible rfl | (dsimp only; (clear hA hc hn; unfold q_and; grind); done) | ((clear hA hc hn; unfold q_and; grind); done) | (exfalso; clear hA hc hn; grind)) (by first | with_reducible rfl | (dsimp only; (clear hA hc hn; unfold q_and; grind); done) | ((clear hA hc hn; unfold q_and; grind); done) | (exfalso; clear hA hc hn; grind))
  · skip
    refine jr_aload_n d_m_isGoodStep_236 rfl rfl ?_
    refine jr_aload_n d_m_isGoodStep_237 rfl rfl ?_
    refine jr_iload_n d_m_isGoodStep_238 rfl rfl ?_
    refine jv_S2r d_m_isGoodStep_239 l_m_109 k_m_kindOf ⟨Nat.le_of_ble_eq_true rfl, Nat.le_of_ble_eq_true rfl⟩ (Nat.le_of_ble_eq_true rfl) (ct_m_kindOf hc hn) (by first | decide | exact Nat.zero_le _ | (dsimp only; omega) | (dsimp only; clear hA hc hn; grind)) (by first | decide | exact Nat.zero_le _ | (dsimp only; omega) | (dsimp only; clear hA hc hn; grind)) ?_
    refine jv_V1r d_m_isGoodStep_242 l_m_103 k_m_gives ⟨Nat.le_of_ble_eq_true rfl, Nat.le_of_ble_eq_true rfl⟩ rfl rfl (Nat.le_of_ble_eq_true rfl) (ct_m_gives (by first | with_reducible exact hk | with_reducible exact hk.tk | with_reducible exact hk.tk.tk | with_reducible exact hk.gv)) (by first | decide | exact Nat.zero_le _ | (dsimp only; omega) | (dsimp only; clear hA hc hn; grind)) (by first | decide | exact Nat.zero_le _ | (dsimp only; omega) | (dsimp only; clear hA hc hn; grind)) ?_
    refine jr_if_eq (tgt := 252) d_m_isGoodStep_245 (by decide) (fun c245 => ?_) (fun c245 => ?_)
    · skip
      refine jr_iconst (v := 0) d_m_isGoodStep_252 (by decide) ?_
      exact jr_retX (v := some _) d_m_isGoodStep_253 (by first | exact Nat.le_refl _ | exact Nat.zero_le _ | (dsimp only; omega)) (by first | exact Nat.le_refl _ | exact Nat.zero_le _ | (dsimp only; omega)) (by first | with_reducible rfl | (dsimp only; (clear hA hc hn; unfold q_and; grind); done) | ((clear hA hc hn; unfold q_and; grind); done) | (exfalso; clear hA hc hn; grind)) (by first | with_reducible rfl | (dsimp only; (clear hA hc hn; unfold q_and; grind); done) | ((clear hA hc hn; unfold q_and; grind); done) | (exfalso; clear hA hc hn; grind)) (by first | with_reducible rfl | (dsimp only; (clear hA hc hn; unfold q_and; grind); done) | ((clear hA hc hn; unfold q_and; grind); done) | (exfalso; clear hA hc hn; grind)) (by first | with_reducible rfl | (dsimp only; (clear hA hc hn; unfold q_and; grind); done) | ((clear hA hc hn; unfold q_and; grind); done) | (exfalso; clear hA hc hn; grind))
    · skip
      refine jr_iconst (v := 1) d_m_isGoodStep_248 (by decide) ?_
      refine jr_goto (tgt := 253) d_m_isGoodStep_249 (by decide) ?_
      exact jr_retX (v := some _) d_m_isGoodStep_253 (by first | exact Nat.le_refl _ | exact Nat.zero_le _ | (dsimp only; omega)) (by first | exact Nat.le_refl _ | exact Nat.zero_le _ | (dsimp only; omega)) (by first | with_reducible rfl | (dsimp only; (clear hA hc hn; unfold q_and; grind); done) | ((clear hA hc hn; unfold q_and; grind); done) | (exfalso; clear hA hc hn; grind)) (by first | with_reducible rfl | (dsimp only; (clear hA hc hn; unfold q_and; grind); done) | ((clear hA hc hn; unfold q_and; grind); done) | (exfalso; clear hA hc hn; grind)) (by first | with_reducible rfl | (dsimp only; (clear hA hc hn; unfold q_and; grind); done) | ((clear hA hc hn; unfold q_and; grind); done) | (exfalso; clear hA hc hn; grind)) (by first | with_reducible rfl | (dsimp only; (clear hA hc hn; unfold q_and; grind); done) | ((clear hA hc hn; unfold q_and; grind); done) | (exfalso; clear hA hc hn; grind))
theorem ct_m_isGoodStep_10 {I : jc_I} {O : jc_O} {live : jc_L → Prop} {cn c : Nat} {op a : Int32} (hA : qA I O live cn) (hk : qk I O) (hc : qc O c) (hn : qn I c) (ho : op = 10) : jc_Ct y_m_isGoodStep [.inr (some (10, 0, 0)), .inr (some (11, c, 0)), .inl op, .inl a] I O live (some (.inl (if 0 < q_lk I c a then q_and (q_tk I (q_lk I c a)) q_1 else (0, I)).1), (if 0 < q_lk I c a then q_and (q_tk I (q_lk I c a)) q_1 else (0, I)).2, O, live, 0, 0) := by
  obtain ⟨m0, m2, m4, m6, m7⟩ := id hA.1
  obtain ⟨k1, k2, k3⟩ := id hk
  refine jc_Ct.of (by decide +kernel) (Or.inr ⟨rfl, q01_ite (q_and01 q_101) (Or.inl rfl)⟩) (Nat.le_of_ble_eq_true rfl) ?_
  refine jr_iload_n d_m_isGoodStep_0 rfl rfl ?_
  refine jr_tableIn (tgt := 254) d_m_isGoodStep_1 (by rcases ho with rfl <;> decide) (by rcases ho with rfl <;> decide) (by rcases ho with rfl <;> rfl) (by decide) ?_
  refine jr_aload_n d_m_isGoodStep_254 rfl rfl ?_
  refine jr_iload_n d_m_isGoodStep_255 rfl rfl ?_
  refine jv_S2r d_m_isGoodStep_256 l_m_109 k_m_kindOf ⟨Nat.le_of_ble_eq_true rfl, Nat.le_of_ble_eq_true rfl⟩ (Nat.le_of_ble_eq_true rfl) (ct_m_kindOf hc hn) (by first | decide | exact Nat.zero_le _ | (dsimp only; omega) | (dsimp only; clear hA hc hn; grind)) (by first | decide | exact Nat.zero_le _ | (dsimp only; omega) | (dsimp only; clear hA hc hn; grind)) ?_
  refine jr_if_le (tgt := 278) d_m_isGoodStep_259 (by decide) (fun c259 => ?_) (fun c259 => ?_)
  · skip
    refine jr_iconst (v := 0) d_m_isGoodStep_278 (by decide) ?_
    exact jr_retX (v := some _) d_m_isGoodStep_279 (by first | exact Nat.le_refl _ | exact Nat.zero_le _ | (dsimp only; omega)) (by first | exact Nat.le_refl _ | exact Nat.zero_le _ | (dsimp only; omega)) (by first | with_reducible rfl | (dsimp only; (clear hA hc hn; unfold q_and; grind); done) | ((clear hA hc hn; unfold q_and; grind); done) | (exfalso; clear hA hc hn; grind)) (by first | with_reducible rfl | (dsimp only; (clear hA hc hn; unfold q_and; grind); done) | ((clear hA hc hn; unfold q_and; grind); done) | (exfalso; clear hA hc hn; grind)) (by first | with_reducible rfl | (dsimp only; (clear hA hc hn; unfold q_and; grind); done) | ((clear hA hc hn; unfold q_and; grind); done) | (exfalso; clear hA hc hn; grind)) (by first | with_reducible rfl | (dsimp only; (clear hA hc hn; unfold q_and; grind); done) | ((clear hA hc hn; unfold q_and; grind); done) | (exfalso; clear hA hc hn; grind))
  · skip
    refine jr_aload_n d_m_isGoodStep_262 rfl rfl ?_
    refine jr_aload_n d_m_isGoodStep_263 rfl rfl ?_
    refine jr_iload_n d_m_isGoodStep_264 rfl rfl ?_
    refine jv_S2r d_m_isGoodStep_265 l_m_109 k_m_kindOf ⟨Nat.le_of_ble_eq_true rfl, Nat.le_of_ble_eq_true rfl⟩ (Nat.le_of_ble_eq_true rfl) (ct_m_kindOf hc hn) (by first | decide | exact Nat.zero_le _ | (dsimp only; omega) | (dsimp only; clear hA hc hn; grind)) (by first | decide | exact Nat.zero_le _ | (dsimp only; omega) | (dsimp only; clear hA hc hn; grind)) ?_
    refine jv_V1r d_m_isGoodStep_268 l_m_106 k_m_takes ⟨Nat.le_of_ble_eq_true rfl, Nat.le_of_ble_eq_true rfl⟩ rfl rfl (Nat.le_of_ble_eq_true rfl) (ct_m_takes (by first | with_reducible exact hk | with_reducible exact hk.tk | with_reducible exact hk.tk.tk | with_reducible exact hk.gv)) (by first | decide | exact Nat.zero_le _ | (dsimp only; omega) | (dsimp only; clear hA hc hn; grind)) (by first | decide | exact Nat.zero_le _ | (dsimp only; omega) | (dsimp only; clear hA hc hn; grind)) ?_
    refine jr_if_eq (tgt := 278) d_m_isGoodStep_271 (by decide) (fun c271 => ?_) (fun c271 => ?_)
    · skip
      refine jr_iconst (v := 0) d_m_isGoodStep_278 (by decide) ?_
      exact jr_retX (v := some _) d_m_isGoodStep_279 (by first | exact Nat.le_refl _ | exact Nat.zero_le _ | (dsimp only; omega)) (by first | exact Nat.le_refl _ | exact Nat.zero_le _ | (dsimp only; omega)) (by first | with_reducible rfl | (dsimp only; (clear hA hc hn; unfold q_and; grind); done) | ((clear hA hc hn; unfold q_and; grind); done) | (exfalso; clear hA hc hn; grind)) (by first | with_reducible rfl | (dsimp only; (clear hA hc hn; unfold q_and; grind); done) | ((clear hA hc hn; unfold q_and; grind); done) | (exfalso; clear hA hc hn; grind)) (by first | with_reducible rfl | (dsimp only; (clear hA hc hn; unfold q_and; grind); done) | ((clear hA hc hn; unfold q_and; grind); done) | (exfalso; clear hA hc hn; grind)) (by first | with_reducible rfl | (dsimp only; (clear hA hc hn; unfold q_and; grind); done) | ((clear hA hc hn; unfold q_and; grind); done) | (exfalso; clear hA hc hn; grind))
    · skip
      refine jr_iconst (v := 1) d_m_isGoodStep_274 (by decide) ?_
      refine jr_goto (tgt := 279) d_m_isGoodStep_275 (by decide) ?_
      exact jr_retX (v := some _) d_m_isGoodStep_279 (by first | exact Nat.le_refl _ | exact Nat.zero_le _ | (dsimp only; omega)) (by first | exact Nat.le_refl _ | exact Nat.zero_le _ | (dsimp only; omega)) (by first | with_reducible rfl | (dsimp only; (clear hA hc hn; unfold q_and; grind); done) | ((clear hA hc hn; unfold q_and; grind); done) | (exfalso; clear hA hc hn; grind)) (by first | with_reducible rfl | (dsimp only; (clear hA hc hn; unfold q_and; grind); done) | ((clear hA hc hn; unfold q_and; grind); done) | (exfalso; clear hA hc hn; grind)) (by first | with_reducible rfl | (dsimp only; (clear hA hc hn; unfold q_and; grind); done) | ((clear hA hc hn; unfold q_and; grind); done) | (exfalso; clear hA hc hn; grind)) (by first | with_reducible rfl | (dsimp only; (clear hA hc hn; unfold q_and; grind); done) | ((clear hA hc hn; unfold q_and; grind); done) | (exfalso; clear hA hc hn; grind))
theorem ct_m_isGoodStep_11 {I : jc_I} {O : jc_O} {live : jc_L → Prop} {cn c : Nat} {op a : Int32} (hA : qA I O live cn) (hk : qk I O) (hc : qc O c) (hn : qn I c) (ho : op = 11) : jc_Ct y_m_isGoodStep [.inr (some (10, 0, 0)), .inr (some (11, c, 0)), .inl op, .inl a] I O live (some (.inl (((q_tg I c a, I) : Int32 × jc_I)).1), (((q_tg I c a, I) : Int32 × jc_I)).2, O, live, 0, 0) := by
  obtain ⟨m0, m2, m4, m6, m7⟩ := id hA.1
  obtain ⟨k1, k2, k3⟩ := id hk
  refine jc_Ct.of (by decide +kernel) (Or.inr ⟨rfl, q_tg01⟩) (Nat.le_of_ble_eq_true rfl) ?_
  refine jr_iload_n d_m_isGoodStep_0 rfl rfl ?_
  refine jr_tableIn (tgt := 280) d_m_isGoodStep_1 (by rcases ho with rfl <;> decide) (by rcases ho with rfl <;> decide) (by rcases ho with rfl <;> rfl) (by decide) ?_
  refine jr_aload_n d_m_isGoodStep_280 rfl rfl ?_
  refine jr_aload_n d_m_isGoodStep_281 rfl rfl ?_
  refine jr_iload_n d_m_isGoodStep_282 rfl rfl ?_
  refine jv_V2r d_m_isGoodStep_283 l_m_113 k_m_isTarget ⟨Nat.le_of_ble_eq_true rfl, Nat.le_of_ble_eq_true rfl⟩ rfl rfl (Nat.le_of_ble_eq_true rfl) (ct_m_isTarget hc (by first | with_reducible exact hn | with_reducible exact hn.tk)) (by first | decide | exact Nat.zero_le _ | (dsimp only; omega) | (dsimp only; clear hA hc hn; grind)) (by first | decide | exact Nat.zero_le _ | (dsimp only; omega) | (dsimp only; clear hA hc hn; grind)) ?_
  exact jr_retX (v := some _) d_m_isGoodStep_286 (by first | exact Nat.le_refl _ | exact Nat.zero_le _ | (dsimp only; omega)) (by first | exact Nat.le_refl _ | exact Nat.zero_le _ | (dsimp only; omega)) (by first | with_reducible rfl | (dsimp only; rfl; done) | (rfl; done) | (exfalso; clear hA hc hn; grind)) (by first | with_reducible rfl | (dsimp only; rfl; done) | (rfl; done) | (exfalso; clear hA hc hn; grind)) (by first | with_reducible rfl | (dsimp only; rfl; done) | (rfl; done) | (exfalso; clear hA hc hn; grind)) (by first | with_reducible rfl | (dsimp only; rfl; done) | (rfl; done) | (exfalso; clear hA hc hn; grind))
theorem ct_m_isGoodStep_12 {I : jc_I} {O : jc_O} {live : jc_L → Prop} {cn c : Nat} {op a : Int32} (hA : qA I O live cn) (hk : qk I O) (hc : qc O c) (hn : qn I c) (ho : op = 12) : jc_Ct y_m_isGoodStep [.inr (some (10, 0, 0)), .inr (some (11, c, 0)), .inl op, .inl a] I O live (some (.inl (q_and (q_tk I 1) (fun J => (q_tg J c a, J))).1), (q_and (q_tk I 1) (fun J => (q_tg J c a, J))).2, O, live, 0, 0) := by
  obtain ⟨m0, m2, m4, m6, m7⟩ := id hA.1
  obtain ⟨k1, k2, k3⟩ := id hk
  refine jc_Ct.of (by decide +kernel) (Or.inr ⟨rfl, q_and01 q_ct01⟩) (Nat.le_of_ble_eq_true rfl) ?_
  refine jr_iload_n d_m_isGoodStep_0 rfl rfl ?_
  refine jr_tableIn (tgt := 287) d_m_isGoodStep_1 (by rcases ho with rfl <;> decide) (by rcases ho with rfl <;> decide) (by rcases ho with rfl <;> rfl) (by decide) ?_
  refine jr_aload_n d_m_isGoodStep_287 rfl rfl ?_
  refine jr_iconst (v := 1) d_m_isGoodStep_288 (by decide) ?_
  refine jv_V1r d_m_isGoodStep_289 l_m_106 k_m_takes ⟨Nat.le_of_ble_eq_true rfl, Nat.le_of_ble_eq_true rfl⟩ rfl rfl (Nat.le_of_ble_eq_true rfl) (ct_m_takes (by first | with_reducible exact hk | with_reducible exact hk.tk | with_reducible exact hk.tk.tk | with_reducible exact hk.gv)) (by first | decide | exact Nat.zero_le _ | (dsimp only; omega) | (dsimp only; clear hA hc hn; grind)) (by first | decide | exact Nat.zero_le _ | (dsimp only; omega) | (dsimp only; clear hA hc hn; grind)) ?_
  refine jr_if_eq (tgt := 308) d_m_isGoodStep_292 (by decide) (fun c292 => ?_) (fun c292 => ?_)
  · skip
    refine jr_iconst (v := 0) d_m_isGoodStep_308 (by decide) ?_
    exact jr_retX (v := some _) d_m_isGoodStep_309 (by first | exact Nat.le_refl _ | exact Nat.zero_le _ | (dsimp only; omega)) (by first | exact Nat.le_refl _ | exact Nat.zero_le _ | (dsimp only; omega)) (by first | with_reducible rfl | (dsimp only; (clear hA hc hn; unfold q_and; (try dsimp only); first | (rw [if_pos (by assumption)]; done) | (rw [if_neg (by assumption)]; (try dsimp only); rcases q_tg01 (I := (q_tk I 1).2) (c := c) (p := a) with h9 | h9 <;> first | (rw [h9]; done) | (exfalso; grind) | rfl) | (rw [if_neg (by assumption)])); done) | ((clear hA hc hn; unfold q_and; (try dsimp only); first | (rw [if_pos (by assumption)]; done) | (rw [if_neg (by assumption)]; (try dsimp only); rcases q_tg01 (I := (q_tk I 1).2) (c := c) (p := a) with h9 | h9 <;> first | (rw [h9]; done) | (exfalso; grind) | rfl) | (rw [if_neg (by assumption)])); done) | (exfalso; clear hA hc hn; grind)) (by first | with_reducible rfl | (dsimp only; (clear hA hc hn; unfold q_and; (try dsimp only); first | (rw [if_pos (by assumption)]; done) | (rw [if_neg (by assumption)]; (try dsimp only); rcases q_tg01 (I := (q_tk I 1).2) (c := c) (p := a) with h9 | h9 <;> first | (rw [h9]; done) | (exfalso; grind) | rfl) | (rw [if_neg (by assumption)])); done) | ((clear hA hc hn; unfold q_and; (try dsimp only); first | (rw [if_pos (by assumption)]; done) | (rw [if_neg (by assumption)]; (try dsimp only); rcases q_tg01 (I := (q_tk I 1).2) (c := c) (p := a) with h9 | h9 <;> first | (rw [h9]; done) | (exfalso; grind) | rfl) | (rw [if_neg (by assumption)])); done) | (exfalso; clear hA hc hn; grind)) (by first | with_reducible rfl | (dsimp only; (clear hA hc hn; unfold q_and; (try dsimp only); first | (rw [if_pos (by assumption)]; done) | (rw [if_neg (by assumption)]; (try dsimp only); rcases q_tg01 (I := (q_tk I 1).2) (c := c) (p := a) with h9 | h9 <;> first | (rw [h9]; done) | (exfalso; grind) | rfl) | (rw [if_neg (by assumption)])); done) | ((clear hA hc hn; unfold q_and; (try dsimp only); first | (rw [if_pos (by assumption)]; done) | (rw [if_neg (by assumption)]; (try dsimp only); rcases q_tg01 (I := (q_tk I 1).2) (c := c) (p := a) with h9 | h9 <;> first | (rw [h9]; done) | (exfalso; grind) | rfl) | (rw [if_neg (by assumption)])); done) | (exfalso; clear hA hc hn; grind)) (by first | with_reducible rfl | (dsimp only; (clear hA hc hn; unfold q_and; (try dsimp only); first | (rw [if_pos (by assumption)]; done) | (rw [if_neg (by assumption)]; (try dsimp only); rcases q_tg01 (I := (q_tk I 1).2) (c := c) (p := a) with h9 | h9 <;> first | (rw [h9]; done) | (exfalso; grind) | rfl) | (rw [if_neg (by assumption)])); done) | ((clear hA hc hn; unfold q_and; (try dsimp only); first | (rw [if_pos (by assumption)]; done) | (rw [if_neg (by assumption)]; (try dsimp only); rcases q_tg01 (I := (q_tk I 1).2) (c := c) (p := a) with h9 | h9 <;> first | (rw [h9]; done) | (exfalso; grind) | rfl) | (rw [if_neg (by assumption)])); done) | (exfalso; clear hA hc hn; grind))
  · skip
    refine jr_aload_n d_m_isGoodStep_295 rfl rfl ?_
    refine jr_aload_n d_m_isGoodStep_296 rfl rfl ?_
    refine jr_iload_n d_m_isGoodStep_297 rfl rfl ?_
    refine jv_V2r d_m_isGoodStep_298 l_m_113 k_m_isTarget ⟨Nat.le_of_ble_eq_true rfl, Nat.le_of_ble_eq_true rfl⟩ rfl rfl (Nat.le_of_ble_eq_true rfl) (ct_m_isTarget hc (by first | with_reducible exact hn | with_reducible exact hn.tk)) (by first | decide | exact Nat.zero_le _ | (dsimp only; omega) | (dsimp only; clear hA hc hn; grind)) (by first | decide | exact Nat.zero_le _ | (dsimp only; omega) | (dsimp only; clear hA hc hn; grind)) ?_
    refine jr_if_eq (tgt := 308) d_m_isGoodStep_301 (by decide) (fun c301 => ?_) (fun c301 => ?_)
    · skip
      refine jr_iconst (v := 0) d_m_isGoodStep_308 (by decide) ?_
      exact jr_retX (v := some _) d_m_isGoodStep_309 (by first | exact Nat.le_refl _ | exact Nat.zero_le _ | (dsimp only; omega)) (by first | exact Nat.le_refl _ | exact Nat.zero_le _ | (dsimp only; omega)) (by first | with_reducible rfl | (dsimp only; (clear hA hc hn; unfold q_and; (try dsimp only); first | (rw [if_pos (by assumption)]; done) | (rw [if_neg (by assumption)]; (try dsimp only); rcases q_tg01 (I := (q_tk I 1).2) (c := c) (p := a) with h9 | h9 <;> first | (rw [h9]; done) | (exfalso; grind) | rfl) | (rw [if_neg (by assumption)])); done) | ((clear hA hc hn; unfold q_and; (try dsimp only); first | (rw [if_pos (by assumption)]; done) | (rw [if_neg (by assumption)]; (try dsimp only); rcases q_tg01 (I := (q_tk I 1).2) (c := c) (p := a) with h9 | h9 <;> first | (rw [h9]; done) | (exfalso; grind) | rfl) | (rw [if_neg (by assumption)])); done) | (exfalso; clear hA hc hn; grind)) (by first | with_reducible rfl | (dsimp only; (clear hA hc hn; unfold q_and; (try dsimp only); first | (rw [if_pos (by assumption)]; done) | (rw [if_neg (by assumption)]; (try dsimp only); rcases q_tg01 (I := (q_tk I 1).2) (c := c) (p := a) with h9 | h9 <;> first | (rw [h9]; done) | (exfalso; grind) | rfl) | (rw [if_neg (by assumption)])); done) | ((clear hA hc hn; unfold q_and; (try dsimp only); first | (rw [if_pos (by assumption)]; done) | (rw [if_neg (by assumption)]; (try dsimp only); rcases q_tg01 (I := (q_tk I 1).2) (c := c) (p := a) with h9 | h9 <;> first | (rw [h9]; done) | (exfalso; grind) | rfl) | (rw [if_neg (by assumption)])); done) | (exfalso; clear hA hc hn; grind)) (by first | with_reducible rfl | (dsimp only; (clear hA hc hn; unfold q_and; (try dsimp only); first | (rw [if_pos (by assumption)]; done) | (rw [if_neg (by assumption)]; (try dsimp only); rcases q_tg01 (I := (q_tk I 1).2) (c := c) (p := a) with h9 | h9 <;> first | (rw [h9]; done) | (exfalso; grind) | rfl) | (rw [if_neg (by assumption)])); done) | ((clear hA hc hn; unfold q_and; (try dsimp only); first | (rw [if_pos (by assumption)]; done) | (rw [if_neg (by assumption)]; (try dsimp only); rcases q_tg01 (I := (q_tk I 1).2) (c := c) (p := a) with h9 | h9 <;> first | (rw [h9]; done) | (exfalso; grind) | rfl) | (rw [if_neg (by assumption)])); done) | (exfalso; clear hA hc hn; grind)) (by first | with_reducible rfl | (dsimp only; (clear hA hc hn; unfold q_and; (try dsimp only); first | (rw [if_pos (by assumption)]; done) | (rw [if_neg (by assumption)]; (try dsimp only); rcases q_tg01 (I := (q_tk I 1).2) (c := c) (p := a) with h9 | h9 <;> first | (rw [h9]; done) | (exfalso; grind) | rfl) | (rw [if_neg (by assumption)])); done) | ((clear hA hc hn; unfold q_and; (try dsimp only); first | (rw [if_pos (by assumption)]; done) | (rw [if_neg (by assumption)]; (try dsimp only); rcases q_tg01 (I := (q_tk I 1).2) (c := c) (p := a) with h9 | h9 <;> first | (rw [h9]; done) | (exfalso; grind) | rfl) | (rw [if_neg (by assumption)])); done) | (exfalso; clear hA hc hn; grind))
    · skip
      refine jr_iconst (v := 1) d_m_isGoodStep_304 (by decide) ?_
      refine jr_goto (tgt := 309) d_m_isGoodStep_305 (by decide) ?_
      exact jr_retX (v := some _) d_m_isGoodStep_309 (by first | exact Nat.le_refl _ | exact Nat.zero_le _ | (dsimp only; omega)) (by first | exact Nat.le_refl _ | exact Nat.zero_le _ | (dsimp only; omega)) (by first | with_reducible rfl | (dsimp only; (clear hA hc hn; unfold q_and; (try dsimp only); first | (rw [if_pos (by assumption)]; done) | (rw [if_neg (by assumption)]; (try dsimp only); rcases q_tg01 (I := (q_tk I 1).2) (c := c) (p := a) with h9 | h9 <;> first | (rw [h9]; done) | (exfalso; grind) | rfl) | (rw [if_neg (by assumption)])); done) | ((clear hA hc hn; unfold q_and; (try dsimp only); first | (rw [if_pos (by assumption)]; done) | (rw [if_neg (by assumption)]; (try dsimp only); rcases q_tg01 (I := (q_tk I 1).2) (c := c) (p := a) with h9 | h9 <;> first | (rw [h9]; done) | (exfalso; grind) | rfl) | (rw [if_neg (by assumption)])); done) | (exfalso; clear hA hc hn; grind)) (by first | with_reducible rfl | (dsimp only; (clear hA hc hn; unfold q_and; (try dsimp only); first | (rw [if_pos (by assumption)]; done) | (rw [if_neg (by assumption)]; (try dsimp only); rcases q_tg01 (I := (q_tk I 1).2) (c := c) (p := a) with h9 | h9 <;> first | (rw [h9]; done) | (exfalso; grind) | rfl) | (rw [if_neg (by assumption)])); done) | ((clear hA hc hn; unfold q_and; (try dsimp only); first | (rw [if_pos (by assumption)]; done) | (rw [if_neg (by assumption)]; (try dsimp only); rcases q_tg01 (I := (q_tk I 1).2) (c := c) (p := a) with h9 | h9 <;> first | (rw [h9]; done) | (exfalso; grind) | rfl) | (rw [if_neg (by assumption)])); done) | (exfalso; clear hA hc hn; grind)) (by first | with_reducible rfl | (dsimp only; (clear hA hc hn; unfold q_and; (try dsimp only); first | (rw [if_pos (by assumption)]; done) | (rw [if_neg (by assumption)]; (try dsimp only); rcases q_tg01 (I := (q_tk I 1).2) (c := c) (p := a) with h9 | h9 <;> first | (rw [h9]; done) | (exfalso; grind) | rfl) | (rw [if_neg (by assumption)])); done) | ((clear hA hc hn; unfold q_and; (try dsimp only); first | (rw [if_pos (by assumption)]; done) | (rw [if_neg (by assumption)]; (try dsimp only); rcases q_tg01 (I := (q_tk I 1).2) (c := c) (p := a) with h9 | h9 <;> first | (rw [h9]; done) | (exfalso; grind) | rfl) | (rw [if_neg (by assumption)])); done) | (exfalso; clear hA hc hn; grind)) (by first | with_reducible rfl | (dsimp only; (clear hA hc hn; unfold q_and; (try dsimp only); first | (rw [if_pos (by assumption)]; done) | (rw [if_neg (by assumption)]; (try dsimp only); rcases q_tg01 (I := (q_tk I 1).2) (c := c) (p := a) with h9 | h9 <;> first | (rw [h9]; done) | (exfalso; grind) | rfl) | (rw [if_neg (by assumption)])); done) | ((clear hA hc hn; unfold q_and; (try dsimp only); first | (rw [if_pos (by assumption)]; done) | (rw [if_neg (by assumption)]; (try dsimp only); rcases q_tg01 (I := (q_tk I 1).2) (c := c) (p := a) with h9 | h9 <;> first | (rw [h9]; done) | (exfalso; grind) | rfl) | (rw [if_neg (by assumption)])); done) | (exfalso; clear hA hc hn; grind))
theorem ct_m_isGoodStep_13 {I : jc_I} {O : jc_O} {live : jc_L → Prop} {cn c : Nat} {op a : Int32} (hA : qA I O live cn) (hk : qk I O) (hc : qc O c) (hn : qn I c) (ho : op = 13) : jc_Ct y_m_isGoodStep [.inr (some (10, 0, 0)), .inr (some (11, c, 0)), .inl op, .inl a] I O live (some (.inl (q_and (q_tk I 2) (fun J => (q_tg J c a, J))).1), (q_and (q_tk I 2) (fun J => (q_tg J c a, J))).2, O, live, 0, 0) := by
  obtain ⟨m0, m2, m4, m6, m7⟩ := id hA.1
  obtain ⟨k1, k2, k3⟩ := id hk
  refine jc_Ct.of (by decide +kernel) (Or.inr ⟨rfl, q_and01 q_ct01⟩) (Nat.le_of_ble_eq_true rfl) ?_
  refine jr_iload_n d_m_isGoodStep_0 rfl rfl ?_
  refine jr_tableIn (tgt := 310) d_m_isGoodStep_1 (by rcases ho with rfl <;> decide) (by rcases ho with rfl <;> decide) (by rcases ho with rfl <;> rfl) (by decide) ?_
  refine jr_aload_n d_m_isGoodStep_310 rfl rfl ?_
  refine jr_iconst (v := 2) d_m_isGoodStep_311 (by decide) ?_
  refine jv_V1r d_m_isGoodStep_312 l_m_106 k_m_takes ⟨Nat.le_of_ble_eq_true rfl, Nat.le_of_ble_eq_true rfl⟩ rfl rfl (Nat.le_of_ble_eq_true rfl) (ct_m_takes (by first | with_reducible exact hk | with_reducible exact hk.tk | with_reducible exact hk.tk.tk | with_reducible exact hk.gv)) (by first | decide | exact Nat.zero_le _ | (dsimp only; omega) | (dsimp only; clear hA hc hn; grind)) (by first | decide | exact Nat.zero_le _ | (dsimp only; omega) | (dsimp only; clear hA hc hn; grind)) ?_
  refine jr_if_eq (tgt := 331) d_m_isGoodStep_315 (by decide) (fun c315 => ?_) (fun c315 => ?_)
  · skip
    refine jr_iconst (v := 0) d_m_isGoodStep_331 (by decide) ?_
    exact jr_retX (v := some _) d_m_isGoodStep_332 (by first | exact Nat.le_refl _ | exact Nat.zero_le _ | (dsimp only; omega)) (by first | exact Nat.le_refl _ | exact Nat.zero_le _ | (dsimp only; omega)) (by first | with_reducible rfl | (dsimp only; (clear hA hc hn; unfold q_and; (try dsimp only); first | (rw [if_pos (by assumption)]; done) | (rw [if_neg (by assumption)]; (try dsimp only); rcases q_tg01 (I := (q_tk I 2).2) (c := c) (p := a) with h9 | h9 <;> first | (rw [h9]; done) | (exfalso; grind) | rfl) | (rw [if_neg (by assumption)])); done) | ((clear hA hc hn; unfold q_and; (try dsimp only); first | (rw [if_pos (by assumption)]; done) | (rw [if_neg (by assumption)]; (try dsimp only); rcases q_tg01 (I := (q_tk I 2).2) (c := c) (p := a) with h9 | h9 <;> first | (rw [h9]; done) | (exfalso; grind) | rfl) | (rw [if_neg (by assumption)])); done) | (exfalso; clear hA hc hn; grind)) (by first | with_reducible rfl | (dsimp only; (clear hA hc hn; unfold q_and; (try dsimp only); first | (rw [if_pos (by assumption)]; done) | (rw [if_neg (by assumption)]; (try dsimp only); rcases q_tg01 (I := (q_tk I 2).2) (c := c) (p := a) with h9 | h9 <;> first | (rw [h9]; done) | (exfalso; grind) | rfl) | (rw [if_neg (by assumption)])); done) | ((clear hA hc hn; unfold q_and; (try dsimp only); first | (rw [if_pos (by assumption)]; done) | (rw [if_neg (by assumption)]; (try dsimp only); rcases q_tg01 (I := (q_tk I 2).2) (c := c) (p := a) with h9 | h9 <;> first | (rw [h9]; done) | (exfalso; grind) | rfl) | (rw [if_neg (by assumption)])); done) | (exfalso; clear hA hc hn; grind)) (by first | with_reducible rfl | (dsimp only; (clear hA hc hn; unfold q_and; (try dsimp only); first | (rw [if_pos (by assumption)]; done) | (rw [if_neg (by assumption)]; (try dsimp only); rcases q_tg01 (I := (q_tk I 2).2) (c := c) (p := a) with h9 | h9 <;> first | (rw [h9]; done) | (exfalso; grind) | rfl) | (rw [if_neg (by assumption)])); done) | ((clear hA hc hn; unfold q_and; (try dsimp only); first | (rw [if_pos (by assumption)]; done) | (rw [if_neg (by assumption)]; (try dsimp only); rcases q_tg01 (I := (q_tk I 2).2) (c := c) (p := a) with h9 | h9 <;> first | (rw [h9]; done) | (exfalso; grind) | rfl) | (rw [if_neg (by assumption)])); done) | (exfalso; clear hA hc hn; grind)) (by first | with_reducible rfl | (dsimp only; (clear hA hc hn; unfold q_and; (try dsimp only); first | (rw [if_pos (by assumption)]; done) | (rw [if_neg (by assumption)]; (try dsimp only); rcases q_tg01 (I := (q_tk I 2).2) (c := c) (p := a) with h9 | h9 <;> first | (rw [h9]; done) | (exfalso; grind) | rfl) | (rw [if_neg (by assumption)])); done) | ((clear hA hc hn; unfold q_and; (try dsimp only); first | (rw [if_pos (by assumption)]; done) | (rw [if_neg (by assumption)]; (try dsimp only); rcases q_tg01 (I := (q_tk I 2).2) (c := c) (p := a) with h9 | h9 <;> first | (rw [h9]; done) | (exfalso; grind) | rfl) | (rw [if_neg (by assumption)])); done) | (exfalso; clear hA hc hn; grind))
  · skip
    refine jr_aload_n d_m_isGoodStep_318 rfl rfl ?_
    refine jr_aload_n d_m_isGoodStep_319 rfl rfl ?_
    refine jr_iload_n d_m_isGoodStep_320 rfl rfl ?_
    refine jv_V2r d_m_isGoodStep_321 l_m_113 k_m_isTarget ⟨Nat.le_of_ble_eq_true rfl, Nat.le_of_ble_eq_true rfl⟩ rfl rfl (Nat.le_of_ble_eq_true rfl) (ct_m_isTarget hc (by first | with_reducible exact hn | with_reducible exact hn.tk)) (by first | decide | exact Nat.zero_le _ | (dsimp only; omega) | (dsimp only; clear hA hc hn; grind)) (by first | decide | exact Nat.zero_le _ | (dsimp only; omega) | (dsimp only; clear hA hc hn; grind)) ?_
    refine jr_if_eq (tgt := 331) d_m_isGoodStep_324 (by decide) (fun c324 => ?_) (fun c324 => ?_)
    · skip
      refine jr_iconst (v := 0) d_m_isGoodStep_331 (by decide) ?_
      exact jr_retX (v := some _) d_m_isGoodStep_332 (by first | exact Nat.le_refl _ | exact Nat.zero_le _ | (dsimp only; omega)) (by first | exact Nat.le_refl _ | exact Nat.zero_le _ | (dsimp only; omega)) (by first | with_reducible rfl | (dsimp only; (clear hA hc hn; unfold q_and; (try dsimp only); first | (rw [if_pos (by assumption)]; done) | (rw [if_neg (by assumption)]; (try dsimp only); rcases q_tg01 (I := (q_tk I 2).2) (c := c) (p := a) with h9 | h9 <;> first | (rw [h9]; done) | (exfalso; grind) | rfl) | (rw [if_neg (by assumption)])); done) | ((clear hA hc hn; unfold q_and; (try dsimp only); first | (rw [if_pos (by assumption)]; done) | (rw [if_neg (by assumption)]; (try dsimp only); rcases q_tg01 (I := (q_tk I 2).2) (c := c) (p := a) with h9 | h9 <;> first | (rw [h9]; done) | (exfalso; grind) | rfl) | (rw [if_neg (by assumption)])); done) | (exfalso; clear hA hc hn; grind)) (by first | with_reducible rfl | (dsimp only; (clear hA hc hn; unfold q_and; (try dsimp only); first | (rw [if_pos (by assumption)]; done) | (rw [if_neg (by assumption)]; (try dsimp only); rcases q_tg01 (I := (q_tk I 2).2) (c := c) (p := a) with h9 | h9 <;> first | (rw [h9]; done) | (exfalso; grind) | rfl) | (rw [if_neg (by assumption)])); done) | ((clear hA hc hn; unfold q_and; (try dsimp only); first | (rw [if_pos (by assumption)]; done) | (rw [if_neg (by assumption)]; (try dsimp only); rcases q_tg01 (I := (q_tk I 2).2) (c := c) (p := a) with h9 | h9 <;> first | (rw [h9]; done) | (exfalso; grind) | rfl) | (rw [if_neg (by assumption)])); done) | (exfalso; clear hA hc hn; grind)) (by first | with_reducible rfl | (dsimp only; (clear hA hc hn; unfold q_and; (try dsimp only); first | (rw [if_pos (by assumption)]; done) | (rw [if_neg (by assumption)]; (try dsimp only); rcases q_tg01 (I := (q_tk I 2).2) (c := c) (p := a) with h9 | h9 <;> first | (rw [h9]; done) | (exfalso; grind) | rfl) | (rw [if_neg (by assumption)])); done) | ((clear hA hc hn; unfold q_and; (try dsimp only); first | (rw [if_pos (by assumption)]; done) | (rw [if_neg (by assumption)]; (try dsimp only); rcases q_tg01 (I := (q_tk I 2).2) (c := c) (p := a) with h9 | h9 <;> first | (rw [h9]; done) | (exfalso; grind) | rfl) | (rw [if_neg (by assumption)])); done) | (exfalso; clear hA hc hn; grind)) (by first | with_reducible rfl | (dsimp only; (clear hA hc hn; unfold q_and; (try dsimp only); first | (rw [if_pos (by assumption)]; done) | (rw [if_neg (by assumption)]; (try dsimp only); rcases q_tg01 (I := (q_tk I 2).2) (c := c) (p := a) with h9 | h9 <;> first | (rw [h9]; done) | (exfalso; grind) | rfl) | (rw [if_neg (by assumption)])); done) | ((clear hA hc hn; unfold q_and; (try dsimp only); first | (rw [if_pos (by assumption)]; done) | (rw [if_neg (by assumption)]; (try dsimp only); rcases q_tg01 (I := (q_tk I 2).2) (c := c) (p := a) with h9 | h9 <;> first | (rw [h9]; done) | (exfalso; grind) | rfl) | (rw [if_neg (by assumption)])); done) | (exfalso; clear hA hc hn; grind))
    · skip
      refine jr_iconst (v := 1) d_m_isGoodStep_327 (by decide) ?_
      refine jr_goto (tgt := 332) d_m_isGoodStep_328 (by decide) ?_
      exact jr_retX (v := some _) d_m_isGoodStep_332 (by first | exact Nat.le_refl _ | exact Nat.zero_le _ | (dsimp only; omega)) (by first | exact Nat.le_refl _ | exact Nat.zero_le _ | (dsimp only; omega)) (by first | with_reducible rfl | (dsimp only; (clear hA hc hn; unfold q_and; (try dsimp only); first | (rw [if_pos (by assumption)]; done) | (rw [if_neg (by assumption)]; (try dsimp only); rcases q_tg01 (I := (q_tk I 2).2) (c := c) (p := a) with h9 | h9 <;> first | (rw [h9]; done) | (exfalso; grind) | rfl) | (rw [if_neg (by assumption)])); done) | ((clear hA hc hn; unfold q_and; (try dsimp only); first | (rw [if_pos (by assumption)]; done) | (rw [if_neg (by assumption)]; (try dsimp only); rcases q_tg01 (I := (q_tk I 2).2) (c := c) (p := a) with h9 | h9 <;> first | (rw [h9]; done) | (exfalso; grind) | rfl) | (rw [if_neg (by assumption)])); done) | (exfalso; clear hA hc hn; grind)) (by first | with_reducible rfl | (dsimp only; (clear hA hc hn; unfold q_and; (try dsimp only); first | (rw [if_pos (by assumption)]; done) | (rw [if_neg (by assumption)]; (try dsimp only); rcases q_tg01 (I := (q_tk I 2).2) (c := c) (p := a) with h9 | h9 <;> first | (rw [h9]; done) | (exfalso; grind) | rfl) | (rw [if_neg (by assumption)])); done) | ((clear hA hc hn; unfold q_and; (try dsimp only); first | (rw [if_pos (by assumption)]; done) | (rw [if_neg (by assumption)]; (try dsimp only); rcases q_tg01 (I := (q_tk I 2).2) (c := c) (p := a) with h9 | h9 <;> first | (rw [h9]; done) | (exfalso; grind) | rfl) | (rw [if_neg (by assumption)])); done) | (exfalso; clear hA hc hn; grind)) (by first | with_reducible rfl | (dsimp only; (clear hA hc hn; unfold q_and; (try dsimp only); first | (rw [if_pos (by assumption)]; done) | (rw [if_neg (by assumption)]; (try dsimp only); rcases q_tg01 (I := (q_tk I 2).2) (c := c) (p := a) with h9 | h9 <;> first | (rw [h9]; done) | (exfalso; grind) | rfl) | (rw [if_neg (by assumption)])); done) | ((clear hA hc hn; unfold q_and; (try dsimp only); first | (rw [if_pos (by assumption)]; done) | (rw [if_neg (by assumption)]; (try dsimp only); rcases q_tg01 (I := (q_tk I 2).2) (c := c) (p := a) with h9 | h9 <;> first | (rw [h9]; done) | (exfalso; grind) | rfl) | (rw [if_neg (by assumption)])); done) | (exfalso; clear hA hc hn; grind)) (by first | with_reducible rfl | (dsimp only; (clear hA hc hn; unfold q_and; (try dsimp only); first | (rw [if_pos (by assumption)]; done) | (rw [if_neg (by assumption)]; (try dsimp only); rcases q_tg01 (I := (q_tk I 2).2) (c := c) (p := a) with h9 | h9 <;> first | (rw [h9]; done) | (exfalso; grind) | rfl) | (rw [if_neg (by assumption)])); done) | ((clear hA hc hn; unfold q_and; (try dsimp only); first | (rw [if_pos (by assumption)]; done) | (rw [if_neg (by assumption)]; (try dsimp only); rcases q_tg01 (I := (q_tk I 2).2) (c := c) (p := a) with h9 | h9 <;> first | (rw [h9]; done) | (exfalso; grind) | rfl) | (rw [if_neg (by assumption)])); done) | (exfalso; clear hA hc hn; grind))
theorem ct_m_isGoodStep_15 {I : jc_I} {O : jc_O} {live : jc_L → Prop} {cn c : Nat} {op a : Int32} (hA : qA I O live cn) (hk : qk I O) (hc : qc O c) (hn : qn I c) (ho : op = 15) : jc_Ct y_m_isGoodStep [.inr (some (10, 0, 0)), .inr (some (11, c, 0)), .inl op, .inl a] I O live (some (.inl (q_and (q_tk I 2) (fun J => q_and (q_gv J 1) q_1)).1), (q_and (q_tk I 2) (fun J => q_and (q_gv J 1) q_1)).2, O, live, 0, 0) := by
  obtain ⟨m0, m2, m4, m6, m7⟩ := id hA.1
  obtain ⟨k1, k2, k3⟩ := id hk
  refine jc_Ct.of (by decide +kernel) (Or.inr ⟨rfl, q_and01 (fun _ => q_and01 q_101)⟩) (Nat.le_of_ble_eq_true rfl) ?_
  refine jr_iload_n d_m_isGoodStep_0 rfl rfl ?_
  refine jr_tableIn (tgt := 333) d_m_isGoodStep_1 (by rcases ho with rfl <;> decide) (by rcases ho with rfl <;> decide) (by rcases ho with rfl <;> rfl) (by decide) ?_
  refine jr_aload_n d_m_isGoodStep_333 rfl rfl ?_
  refine jr_iconst (v := 2) d_m_isGoodStep_334 (by decide) ?_
  refine jv_V1r d_m_isGoodStep_335 l_m_106 k_m_takes ⟨Nat.le_of_ble_eq_true rfl, Nat.le_of_ble_eq_true rfl⟩ rfl rfl (Nat.le_of_ble_eq_true rfl) (ct_m_takes (by first | with_reducible exact hk | with_reducible exact hk.tk | with_reducible exact hk.tk.tk | with_reducible exact hk.gv)) (by first | decide | exact Nat.zero_le _ | (dsimp only; omega) | (dsimp only; clear hA hc hn; grind)) (by first | decide | exact Nat.zero_le _ | (dsimp only; omega) | (dsimp only; clear hA hc hn; grind)) ?_
  refine jr_if_eq (tgt := 353) d_m_isGoodStep_338 (by decide) (fun c338 => ?_) (fun c338 => ?_)
  · skip
    refine jr_iconst (v := 0) d_m_isGoodStep_353 (by decide) ?_
    exact jr_retX (v := some _) d_m_isGoodStep_354 (by first | exact Nat.le_refl _ | exact Nat.zero_le _ | (dsimp only; omega)) (by first | exact Nat.le_refl _ | exact Nat.zero_le _ | (dsimp only; omega)) (by first | with_reducible rfl | (dsimp only; (unfold q_and; (try dsimp only); (try rw [if_pos c338]); (try rw [if_neg c338]); (try dsimp only)); done) | ((unfold q_and; (try dsimp only); (try rw [if_pos c338]); (try rw [if_neg c338]); (try dsimp only)); done) | (exfalso; clear hA hc hn; grind)) (by first | with_reducible rfl | (dsimp only; (unfold q_and; (try dsimp only); (try rw [if_pos c338]); (try rw [if_neg c338]); (try dsimp only)); done) | ((unfold q_and; (try dsimp only); (try rw [if_pos c338]); (try rw [if_neg c338]); (try dsimp only)); done) | (exfalso; clear hA hc hn; grind)) (by first | with_reducible rfl | (dsimp only; (unfold q_and; (try dsimp only); (try rw [if_pos c338]); (try rw [if_neg c338]); (try dsimp only)); done) | ((unfold q_and; (try dsimp only); (try rw [if_pos c338]); (try rw [if_neg c338]); (try dsimp only)); done) | (exfalso; clear hA hc hn; grind)) (by first | with_reducible rfl | (dsimp only; (unfold q_and; (try dsimp only); (try rw [if_pos c338]); (try rw [if_neg c338]); (try dsimp only)); done) | ((unfold q_and; (try dsimp only); (try rw [if_pos c338]); (try rw [if_neg c338]); (try dsimp only)); done) | (exfalso; clear hA hc hn; grind))
  · skip
    refine jr_aload_n d_m_isGoodStep_341 rfl rfl ?_
    refine jr_iconst (v := 1) d_m_isGoodStep_342 (by decide) ?_
    refine jv_V1r d_m_isGoodStep_343 l_m_103 k_m_gives ⟨Nat.le_of_ble_eq_true rfl, Nat.le_of_ble_eq_true rfl⟩ rfl rfl (Nat.le_of_ble_eq_true rfl) (ct_m_gives (by first | with_reducible exact hk | with_reducible exact hk.tk | with_reducible exact hk.tk.tk | with_reducible exact hk.gv)) (by first | decide | exact Nat.zero_le _ | (dsimp only; omega) | (dsimp only; clear hA hc hn; grind)) (by first | decide | exact Nat.zero_le _ | (dsimp only; omega) | (dsimp only; clear hA hc hn; grind)) ?_
    refine jr_if_eq (tgt := 353) d_m_isGoodStep_346 (by decide) (fun c346 => ?_) (fun c346 => ?_)
    · skip
      refine jr_iconst (v := 0) d_m_isGoodStep_353 (by decide) ?_
      exact jr_retX (v := some _) d_m_isGoodStep_354 (by first | exact Nat.le_refl _ | exact Nat.zero_le _ | (dsimp only; omega)) (by first | exact Nat.le_refl _ | exact Nat.zero_le _ | (dsimp only; omega)) (by first | with_reducible rfl | (dsimp only; (unfold q_and; (try dsimp only); (try rw [if_pos c338]); (try rw [if_neg c338]); (try dsimp only); (try rw [if_pos c346]); (try rw [if_neg c346]); (try dsimp only)); done) | ((unfold q_and; (try dsimp only); (try rw [if_pos c338]); (try rw [if_neg c338]); (try dsimp only); (try rw [if_pos c346]); (try rw [if_neg c346]); (try dsimp only)); done) | (exfalso; clear hA hc hn; grind)) (by first | with_reducible rfl | (dsimp only; (unfold q_and; (try dsimp only); (try rw [if_pos c338]); (try rw [if_neg c338]); (try dsimp only); (try rw [if_pos c346]); (try rw [if_neg c346]); (try dsimp only)); done) | ((unfold q_and; (try dsimp only); (try rw [if_pos c338]); (try rw [if_neg c338]); (try dsimp only); (try rw [if_pos c346]); (try rw [if_neg c346]); (try dsimp only)); done) | (exfalso; clear hA hc hn; grind)) (by first | with_reducible rfl | (dsimp only; (unfold q_and; (try dsimp only); (try rw [if_pos c338]); (try rw [if_neg c338]); (try dsimp only); (try rw [if_pos c346]); (try rw [if_neg c346]); (try dsimp only)); done) | ((unfold q_and; (try dsimp only); (try rw [if_pos c338]); (try rw [if_neg c338]); (try dsimp only); (try rw [if_pos c346]); (try rw [if_neg c346]); (try dsimp only)); done) | (exfalso; clear hA hc hn; grind)) (by first | with_reducible rfl | (dsimp only; (unfold q_and; (try dsimp only); (try rw [if_pos c338]); (try rw [if_neg c338]); (try dsimp only); (try rw [if_pos c346]); (try rw [if_neg c346]); (try dsimp only)); done) | ((unfold q_and; (try dsimp only); (try rw [if_pos c338]); (try rw [if_neg c338]); (try dsimp only); (try rw [if_pos c346]); (try rw [if_neg c346]); (try dsimp only)); done) | (exfalso; clear hA hc hn; grind))
    · skip
      refine jr_iconst (v := 1) d_m_isGoodStep_349 (by decide) ?_
      refine jr_goto (tgt := 354) d_m_isGoodStep_350 (by decide) ?_
      exact jr_retX (v := some _) d_m_isGoodStep_354 (by first | exact Nat.le_refl _ | exact Nat.zero_le _ | (dsimp only; omega)) (by first | exact Nat.le_refl _ | exact Nat.zero_le _ | (dsimp only; omega)) (by first | with_reducible rfl | (dsimp only; (unfold q_and; (try dsimp only); (try rw [if_pos c338]); (try rw [if_neg c338]); (try dsimp only); (try rw [if_pos c346]); (try rw [if_neg c346]); (try dsimp only)); done) | ((unfold q_and; (try dsimp only); (try rw [if_pos c338]); (try rw [if_neg c338]); (try dsimp only); (try rw [if_pos c346]); (try rw [if_neg c346]); (try dsimp only)); done) | (exfalso; clear hA hc hn; grind)) (by first | with_reducible rfl | (dsimp only; (unfold q_and; (try dsimp only); (try rw [if_pos c338]); (try rw [if_neg c338]); (try dsimp only); (try rw [if_pos c346]); (try rw [if_neg c346]); (try dsimp only)); done) | ((unfold q_and; (try dsimp only); (try rw [if_pos c338]); (try rw [if_neg c338]); (try dsimp only); (try rw [if_pos c346]); (try rw [if_neg c346]); (try dsimp only)); done) | (exfalso; clear hA hc hn; grind)) (by first | with_reducible rfl | (dsimp only; (unfold q_and; (try dsimp only); (try rw [if_pos c338]); (try rw [if_neg c338]); (try dsimp only); (try rw [if_pos c346]); (try rw [if_neg c346]); (try dsimp only)); done) | ((unfold q_and; (try dsimp only); (try rw [if_pos c338]); (try rw [if_neg c338]); (try dsimp only); (try rw [if_pos c346]); (try rw [if_neg c346]); (try dsimp only)); done) | (exfalso; clear hA hc hn; grind)) (by first | with_reducible rfl | (dsimp only; (unfold q_and; (try dsimp only); (try rw [if_pos c338]); (try rw [if_neg c338]); (try dsimp only); (try rw [if_pos c346]); (try rw [if_neg c346]); (try dsimp only)); done) | ((unfold q_and; (try dsimp only); (try rw [if_pos c338]); (try rw [if_neg c338]); (try dsimp only); (try rw [if_pos c346]); (try rw [if_neg c346]); (try dsimp only)); done) | (exfalso; clear hA hc hn; grind))
theorem ct_m_isGoodStep_16 {I : jc_I} {O : jc_O} {live : jc_L → Prop} {cn c : Nat} {op a : Int32} (hA : qA I O live cn) (hk : qk I O) (hc : qc O c) (hn : qn I c) (ho : op = 16) : jc_Ct y_m_isGoodStep [.inr (some (10, 0, 0)), .inr (some (11, c, 0)), .inl op, .inl a] I O live (some (.inl (q_and (q_tk I 2) (fun J => q_and (q_gv J 1) q_1)).1), (q_and (q_tk I 2) (fun J => q_and (q_gv J 1) q_1)).2, O, live, 0, 0) := by
  obtain ⟨m0, m2, m4, m6, m7⟩ := id hA.1
  obtain ⟨k1, k2, k3⟩ := id hk
  refine jc_Ct.of (by decide +kernel) (Or.inr ⟨rfl, q_and01 (fun _ => q_and01 q_101)⟩) (Nat.le_of_ble_eq_true rfl) ?_
  refine jr_iload_n d_m_isGoodStep_0 rfl rfl ?_
  refine jr_tableIn (tgt := 355) d_m_isGoodStep_1 (by rcases ho with rfl <;> decide) (by rcases ho with rfl <;> decide) (by rcases ho with rfl <;> rfl) (by decide) ?_
  refine jr_aload_n d_m_isGoodStep_355 rfl rfl ?_
  refine jr_iconst (v := 2) d_m_isGoodStep_356 (by decide) ?_
  refine jv_V1r d_m_isGoodStep_357 l_m_106 k_m_takes ⟨Nat.le_of_ble_eq_true rfl, Nat.le_of_ble_eq_true rfl⟩ rfl rfl (Nat.le_of_ble_eq_true rfl) (ct_m_takes (by first | with_reducible exact hk | with_reducible exact hk.tk | with_reducible exact hk.tk.tk | with_reducible exact hk.gv)) (by first | decide | exact Nat.zero_le _ | (dsimp only; omega) | (dsimp only; clear hA hc hn; grind)) (by first | decide | exact Nat.zero_le _ | (dsimp only; omega) | (dsimp only; clear hA hc hn; grind)) ?_
  refine jr_if_eq (tgt := 375) d_m_isGoodStep_360 (by decide) (fun c360 => ?_) (fun c360 => ?_)
  · skip
    refine jr_iconst (v := 0) d_m_isGoodStep_375 (by decide) ?_
    exact jr_retX (v := some _) d_m_isGoodStep_376 (by first | exact Nat.le_refl _ | exact Nat.zero_le _ | (dsimp only; omega)) (by first | exact Nat.le_refl _ | exact Nat.zero_le _ | (dsimp only; omega)) (by first | with_reducible rfl | (dsimp only; (unfold q_and; (try dsimp only); (try rw [if_pos c360]); (try rw [if_neg c360]); (try dsimp only)); done) | ((unfold q_and; (try dsimp only); (try rw [if_pos c360]); (try rw [if_neg c360]); (try dsimp only)); done) | (exfalso; clear hA hc hn; grind)) (by first | with_reducible rfl | (dsimp only; (unfold q_and; (try dsimp only); (try rw [if_pos c360]); (try rw [if_neg c360]); (try dsimp only)); done) | ((unfold q_and; (try dsimp only); (try rw [if_pos c360]); (try rw [if_neg c360]); (try dsimp only)); done) | (exfalso; clear hA hc hn; grind)) (by first | with_reducible rfl | (dsimp only; (unfold q_and; (try dsimp only); (try rw [if_pos c360]); (try rw [if_neg c360]); (try dsimp only)); done) | ((unfold q_and; (try dsimp only); (try rw [if_pos c360]); (try rw [if_neg c360]); (try dsimp only)); done) | (exfalso; clear hA hc hn; grind)) (by first | with_reducible rfl | (dsimp only; (unfold q_and; (try dsimp only); (try rw [if_pos c360]); (try rw [if_neg c360]); (try dsimp only)); done) | ((unfold q_and; (try dsimp only); (try rw [if_pos c360]); (try rw [if_neg c360]); (try dsimp only)); done) | (exfalso; clear hA hc hn; grind))
  · skip
    refine jr_aload_n d_m_isGoodStep_363 rfl rfl ?_
    refine jr_iconst (v := 1) d_m_isGoodStep_364 (by decide) ?_
    refine jv_V1r d_m_isGoodStep_365 l_m_103 k_m_gives ⟨Nat.le_of_ble_eq_true rfl, Nat.le_of_ble_eq_true rfl⟩ rfl rfl (Nat.le_of_ble_eq_true rfl) (ct_m_gives (by first | with_reducible exact hk | with_reducible exact hk.tk | with_reducible exact hk.tk.tk | with_reducible exact hk.gv)) (by first | decide | exact Nat.zero_le _ | (dsimp only; omega) | (dsimp only; clear hA hc hn; grind)) (by first | decide | exact Nat.zero_le _ | (dsimp only; omega) | (dsimp only; clear hA hc hn; grind)) ?_
    refine jr_if_eq (tgt := 375) d_m_isGoodStep_368 (by decide) (fun c368 => ?_) (fun c368 => ?_)
    · skip
      refine jr_iconst (v := 0) d_m_isGoodStep_375 (by decide) ?_
      exact jr_retX (v := some _) d_m_isGoodStep_376 (by first | exact Nat.le_refl _ | exact Nat.zero_le _ | (dsimp only; omega)) (by first | exact Nat.le_refl _ | exact Nat.zero_le _ | (dsimp only; omega)) (by first | with_reducible rfl | (dsimp only; (unfold q_and; (try dsimp only); (try rw [if_pos c360]); (try rw [if_neg c360]); (try dsimp only); (try rw [if_pos c368]); (try rw [if_neg c368]); (try dsimp only)); done) | ((unfold q_and; (try dsimp only); (try rw [if_pos c360]); (try rw [if_neg c360]); (try dsimp only); (try rw [if_pos c368]); (try rw [if_neg c368]); (try dsimp only)); done) | (exfalso; clear hA hc hn; grind)) (by first | with_reducible rfl | (dsimp only; (unfold q_and; (try dsimp only); (try rw [if_pos c360]); (try rw [if_neg c360]); (try dsimp only); (try rw [if_pos c368]); (try rw [if_neg c368]); (try dsimp only)); done) | ((unfold q_and; (try dsimp only); (try rw [if_pos c360]); (try rw [if_neg c360]); (try dsimp only); (try rw [if_pos c368]); (try rw [if_neg c368]); (try dsimp only)); done) | (exfalso; clear hA hc hn; grind)) (by first | with_reducible rfl | (dsimp only; (unfold q_and; (try dsimp only); (try rw [if_pos c360]); (try rw [if_neg c360]); (try dsimp only); (try rw [if_pos c368]); (try rw [if_neg c368]); (try dsimp only)); done) | ((unfold q_and; (try dsimp only); (try rw [if_pos c360]); (try rw [if_neg c360]); (try dsimp only); (try rw [if_pos c368]); (try rw [if_neg c368]); (try dsimp only)); done) | (exfalso; clear hA hc hn; grind)) (by first | with_reducible rfl | (dsimp only; (unfold q_and; (try dsimp only); (try rw [if_pos c360]); (try rw [if_neg c360]); (try dsimp only); (try rw [if_pos c368]); (try rw [if_neg c368]); (try dsimp only)); done) | ((unfold q_and; (try dsimp only); (try rw [if_pos c360]); (try rw [if_neg c360]); (try dsimp only); (try rw [if_pos c368]); (try rw [if_neg c368]); (try dsimp only)); done) | (exfalso; clear hA hc hn; grind))
    · skip
      refine jr_iconst (v := 1) d_m_isGoodStep_371 (by decide) ?_
      refine jr_goto (tgt := 376) d_m_isGoodStep_372 (by decide) ?_
      exact jr_retX (v := some _) d_m_isGoodStep_376 (by first | exact Nat.le_refl _ | exact Nat.zero_le _ | (dsimp only; omega)) (by first | exact Nat.le_refl _ | exact Nat.zero_le _ | (dsimp only; omega)) (by first | with_reducible rfl | (dsimp only; (unfold q_and; (try dsimp only); (try rw [if_pos c360]); (try rw [if_neg c360]); (try dsimp only); (try rw [if_pos c368]); (try rw [if_neg c368]); (try dsimp only)); done) | ((unfold q_and; (try dsimp only); (try rw [if_pos c360]); (try rw [if_neg c360]); (try dsimp only); (try rw [if_pos c368]); (try rw [if_neg c368]); (try dsimp only)); done) | (exfalso; clear hA hc hn; grind)) (by first | with_reducible rfl | (dsimp only; (unfold q_and; (try dsimp only); (try rw [if_pos c360]); (try rw [if_neg c360]); (try dsimp only); (try rw [if_pos c368]); (try rw [if_neg c368]); (try dsimp only)); done) | ((unfold q_and; (try dsimp only); (try rw [if_pos c360]); (try rw [if_neg c360]); (try dsimp only); (try rw [if_pos c368]); (try rw [if_neg c368]); (try dsimp only)); done) | (exfalso; clear hA hc hn; grind)) (by first | with_reducible rfl | (dsimp only; (unfold q_and; (try dsimp only); (try rw [if_pos c360]); (try rw [if_neg c360]); (try dsimp only); (try rw [if_pos c368]); (try rw [if_neg c368]); (try dsimp only)); done) | ((unfold q_and; (try dsimp only); (try rw [if_pos c360]); (try rw [if_neg c360]); (try dsimp only); (try rw [if_pos c368]); (try rw [if_neg c368]); (try dsimp only)); done) | (exfalso; clear hA hc hn; grind)) (by first | with_reducible rfl | (dsimp only; (unfold q_and; (try dsimp only); (try rw [if_pos c360]); (try rw [if_neg c360]); (try dsimp only); (try rw [if_pos c368]); (try rw [if_neg c368]); (try dsimp only)); done) | ((unfold q_and; (try dsimp only); (try rw [if_pos c360]); (try rw [if_neg c360]); (try dsimp only); (try rw [if_pos c368]); (try rw [if_neg c368]); (try dsimp only)); done) | (exfalso; clear hA hc hn; grind))
theorem ct_m_isGoodStep_17 {I : jc_I} {O : jc_O} {live : jc_L → Prop} {cn c : Nat} {op a : Int32} (hA : qA I O live cn) (hk : qk I O) (hc : qc O c) (hn : qn I c) (ho : op = 17) : jc_Ct y_m_isGoodStep [.inr (some (10, 0, 0)), .inr (some (11, c, 0)), .inl op, .inl a] I O live (some (.inl (q_and (q_tk I 1) (fun J => q_and (q_tk J 2) q_1)).1), (q_and (q_tk I 1) (fun J => q_and (q_tk J 2) q_1)).2, O, live, 0, 0) := by
  obtain ⟨m0, m2, m4, m6, m7⟩ := id hA.1
  obtain ⟨k1, k2, k3⟩ := id hk
  refine jc_Ct.of (by decide +kernel) (Or.inr ⟨rfl, q_and01 (fun _ => q_and01 q_101)⟩) (Nat.le_of_ble_eq_true rfl) ?_
  refine jr_iload_n d_m_isGoodStep_0 rfl rfl ?_
  refine jr_tableIn (tgt := 377) d_m_isGoodStep_1 (by rcases ho with rfl <;> decide) (by rcases ho with rfl <;> decide) (by rcases ho with rfl <;> rfl) (by decide) ?_
  refine jr_aload_n d_m_isGoodStep_377 rfl rfl ?_
  refine jr_iconst (v := 1) d_m_isGoodStep_378 (by decide) ?_
  refine jv_V1r d_m_isGoodStep_379 l_m_106 k_m_takes ⟨Nat.le_of_ble_eq_true rfl, Nat.le_of_ble_eq_true rfl⟩ rfl rfl (Nat.le_of_ble_eq_true rfl) (ct_m_takes (by first | with_reducible exact hk | with_reducible exact hk.tk | with_reducible exact hk.tk.tk | with_reducible exact hk.gv)) (by first | decide | exact Nat.zero_le _ | (dsimp only; omega) | (dsimp only; clear hA hc hn; grind)) (by first | decide | exact Nat.zero_le _ | (dsimp only; omega) | (dsimp only; clear hA hc hn; grind)) ?_
  refine jr_if_eq (tgt := 397) d_m_isGoodStep_382 (by decide) (fun c382 => ?_) (fun c382 => ?_)
  · skip
    refine jr_iconst (v := 0) d_m_isGoodStep_397 (by decide) ?_
    exact jr_retX (v := some _) d_m_isGoodStep_398 (by first | exact Nat.le_refl _ | exact Nat.zero_le _ | (dsimp only; omega)) (by first | exact Nat.le_refl _ | exact Nat.zero_le _ | (dsimp only; omega)) (by first | with_reducible rfl | (dsimp only; (unfold q_and; (try dsimp only); (try rw [if_pos c382]); (try rw [if_neg c382]); (try dsimp only)); done) | ((unfold q_and; (try dsimp only); (try rw [if_pos c382]); (try rw [if_neg c382]); (try dsimp only)); done) | (exfalso; clear hA hc hn; grind)) (by first | with_reducible rfl | (dsimp only; (unfold q_and; (try dsimp only); (try rw [if_pos c382]); (try rw [if_neg c382]); (try dsimp only)); done) | ((unfold q_and; (try dsimp only); (try rw [if_pos c382]); (try rw [if_neg c382]); (try dsimp only)); done) | (exfalso; clear hA hc hn; grind)) (by first | with_reducible rfl | (dsimp only; (unfold q_and; (try dsimp only); (try rw [if_pos c382]); (try rw [if_neg c382]); (try dsimp only)); done) | ((unfold q_and; (try dsimp only); (try rw [if_pos c382]); (try rw [if_neg c382]); (try dsimp only)); done) | (exfalso; clear hA hc hn; grind)) (by first | with_reducible rfl | (dsimp only; (unfold q_and; (try dsimp only); (try rw [if_pos c382]); (try rw [if_neg c382]); (try dsimp only)); done) | ((unfold q_and; (try dsimp only); (try rw [if_pos c382]); (try rw [if_neg c382]); (try dsimp only)); done) | (exfalso; clear hA hc hn; grind))
  · skip
    refine jr_aload_n d_m_isGoodStep_385 rfl rfl ?_
    refine jr_iconst (v := 2) d_m_isGoodStep_386 (by decide) ?_
    refine jv_V1r d_m_isGoodStep_387 l_m_106 k_m_takes ⟨Nat.le_of_ble_eq_true rfl, Nat.le_of_ble_eq_true rfl⟩ rfl rfl (Nat.le_of_ble_eq_true rfl) (ct_m_takes (by first | with_reducible exact hk | with_reducible exact hk.tk | with_reducible exact hk.tk.tk | with_reducible exact hk.gv)) (by first | decide | exact Nat.zero_le _ | (dsimp only; omega) | (dsimp only; clear hA hc hn; grind)) (by first | decide | exact Nat.zero_le _ | (dsimp only; omega) | (dsimp only; clear hA hc hn; grind)) ?_
    refine jr_if_eq (tgt := 397) d_m_isGoodStep_390 (by decide) (fun c390 => ?_) (fun c390 => ?_)
    · skip
      refine jr_iconst (v := 0) d_m_isGoodStep_397 (by decide) ?_
      exact jr_retX (v := some _) d_m_isGoodStep_398 (by first | exact Nat.le_refl _ | exact Nat.zero_le _ | (dsimp only; omega)) (by first | exact Nat.le_refl _ | exact Nat.zero_le _ | (dsimp only; omega)) (by first | with_reducible rfl | (dsimp only; (unfold q_and; (try dsimp only); (try rw [if_pos c382]); (try rw [if_neg c382]); (try dsimp only); (try rw [if_pos c390]); (try rw [if_neg c390]); (try dsimp only)); done) | ((unfold q_and; (try dsimp only); (try rw [if_pos c382]); (try rw [if_neg c382]); (try dsimp only); (try rw [if_pos c390]); (try rw [if_neg c390]); (try dsimp only)); done) | (exfalso; clear hA hc hn; grind)) (by first | with_reducible rfl | (dsimp only; (unfold q_and; (try dsimp only); (try rw [if_pos c382]); (try rw [if_neg c382]); (try dsimp only); (try rw [if_pos c390]); (try rw [if_neg c390]); (try dsimp only)); done) | ((unfold q_and; (try dsimp only); (try rw [if_pos c382]); (try rw [if_neg c382]); (try dsimp only); (try rw [if_pos c390]); (try rw [if_neg c390]); (try dsimp only)); done) | (exfalso; clear hA hc hn; grind)) (by first | with_reducible rfl | (dsimp only; (unfold q_and; (try dsimp only); (try rw [if_pos c382]); (try rw [if_neg c382]); (try dsimp only); (try rw [if_pos c390]); (try rw [if_neg c390]); (try dsimp only)); done) | ((unfold q_and; (try dsimp only); (try rw [if_pos c382]); (try rw [if_neg c382]); (try dsimp only); (try rw [if_pos c390]); (try rw [if_neg c390]); (try dsimp only)); done) | (exfalso; clear hA hc hn; grind)) (by first | with_reducible rfl | (dsimp only; (unfold q_and; (try dsimp only); (try rw [if_pos c382]); (try rw [if_neg c382]); (try dsimp only); (try rw [if_pos c390]); (try rw [if_neg c390]); (try dsimp only)); done) | ((unfold q_and; (try dsimp only); (try rw [if_pos c382]); (try rw [if_neg c382]); (try dsimp only); (try rw [if_pos c390]); (try rw [if_neg c390]); (try dsimp only)); done) | (exfalso; clear hA hc hn; grind))
    · skip
      refine jr_iconst (v := 1) d_m_isGoodStep_393 (by decide) ?_
      refine jr_goto (tgt := 398) d_m_isGoodStep_394 (by decide) ?_
      exact jr_retX (v := some _) d_m_isGoodStep_398 (by first | exact Nat.le_refl _ | exact Nat.zero_le _ | (dsimp only; omega)) (by first | exact Nat.le_refl _ | exact Nat.zero_le _ | (dsimp only; omega)) (by first | with_reducible rfl | (dsimp only; (unfold q_and; (try dsimp only); (try rw [if_pos c382]); (try rw [if_neg c382]); (try dsimp only); (try rw [if_pos c390]); (try rw [if_neg c390]); (try dsimp only)); done) | ((unfold q_and; (try dsimp only); (try rw [if_pos c382]); (try rw [if_neg c382]); (try dsimp only); (try rw [if_pos c390]); (try rw [if_neg c390]); (try dsimp only)); done) | (exfalso; clear hA hc hn; grind)) (by first | with_reducible rfl | (dsimp only; (unfold q_and; (try dsimp only); (try rw [if_pos c382]); (try rw [if_neg c382]); (try dsimp only); (try rw [if_pos c390]); (try rw [if_neg c390]); (try dsimp only)); done) | ((unfold q_and; (try dsimp only); (try rw [if_pos c382]); (try rw [if_neg c382]); (try dsimp only); (try rw [if_pos c390]); (try rw [if_neg c390]); (try dsimp only)); done) | (exfalso; clear hA hc hn; grind)) (by first | with_reducible rfl | (dsimp only; (unfold q_and; (try dsimp only); (try rw [if_pos c382]); (try rw [if_neg c382]); (try dsimp only); (try rw [if_pos c390]); (try rw [if_neg c390]); (try dsimp only)); done) | ((unfold q_and; (try dsimp only); (try rw [if_pos c382]); (try rw [if_neg c382]); (try dsimp only); (try rw [if_pos c390]); (try rw [if_neg c390]); (try dsimp only)); done) | (exfalso; clear hA hc hn; grind)) (by first | with_reducible rfl | (dsimp only; (unfold q_and; (try dsimp only); (try rw [if_pos c382]); (try rw [if_neg c382]); (try dsimp only); (try rw [if_pos c390]); (try rw [if_neg c390]); (try dsimp only)); done) | ((unfold q_and; (try dsimp only); (try rw [if_pos c382]); (try rw [if_neg c382]); (try dsimp only); (try rw [if_pos c390]); (try rw [if_neg c390]); (try dsimp only)); done) | (exfalso; clear hA hc hn; grind))
theorem ct_m_isGoodStep_23 {I : jc_I} {O : jc_O} {live : jc_L → Prop} {cn c : Nat} {op a : Int32} (hA : qA I O live cn) (hk : qk I O) (hc : qc O c) (hn : qn I c) (ho : op = 23) : jc_Ct y_m_isGoodStep [.inr (some (10, 0, 0)), .inr (some (11, c, 0)), .inl op, .inl a] I O live (some (.inl (q_and (q_tk I 2) (fun J => q_and (q_gv J 2) q_1)).1), (q_and (q_tk I 2) (fun J => q_and (q_gv J 2) q_1)).2, O, live, 0, 0) := by
  obtain ⟨m0, m2, m4, m6, m7⟩ := id hA.1
  obtain ⟨k1, k2, k3⟩ := id hk
  refine jc_Ct.of (by decide +kernel) (Or.inr ⟨rfl, q_and01 (fun _ => q_and01 q_101)⟩) (Nat.le_of_ble_eq_true rfl) ?_
  refine jr_iload_n d_m_isGoodStep_0 rfl rfl ?_
  refine jr_tableIn (tgt := 399) d_m_isGoodStep_1 (by rcases ho with rfl <;> decide) (by rcases ho with rfl <;> decide) (by rcases ho with rfl <;> rfl) (by decide) ?_
  refine jr_aload_n d_m_isGoodStep_399 rfl rfl ?_
  refine jr_iconst (v := 2) d_m_isGoodStep_400 (by decide) ?_
  refine jv_V1r d_m_isGoodStep_401 l_m_106 k_m_takes ⟨Nat.le_of_ble_eq_true rfl, Nat.le_of_ble_eq_true rfl⟩ rfl rfl (Nat.le_of_ble_eq_true rfl) (ct_m_takes (by first | with_reducible exact hk | with_reducible exact hk.tk | with_reducible exact hk.tk.tk | with_reducible exact hk.gv)) (by first | decide | exact Nat.zero_le _ | (dsimp only; omega) | (dsimp only; clear hA hc hn; grind)) (by first | decide | exact Nat.zero_le _ | (dsimp only; omega) | (dsimp only; clear hA hc hn; grind)) ?_
  refine jr_if_eq (tgt := 419) d_m_isGoodStep_404 (by decide) (fun c404 => ?_) (fun c404 => ?_)
  · skip
    refine jr_iconst (v := 0) d_m_isGoodStep_419 (by decide) ?_
    exact jr_retX (v := some _) d_m_isGoodStep_420 (by first | exact Nat.le_refl _ | exact Nat.zero_le _ | (dsimp only; omega)) (by first | exact Nat.le_refl _ | exact Nat.zero_le _ | (dsimp only; omega)) (by first | with_reducible rfl | (dsimp only; (unfold q_and; (try dsimp only); (try rw [if_pos c404]); (try rw [if_neg c404]); (try dsimp only)); done) | ((unfold q_and; (try dsimp only); (try rw [if_pos c404]); (try rw [if_neg c404]); (try dsimp only)); done) | (exfalso; clear hA hc hn; grind)) (by first | with_reducible rfl | (dsimp only; (unfold q_and; (try dsimp only); (try rw [if_pos c404]); (try rw [if_neg c404]); (try dsimp only)); done) | ((unfold q_and; (try dsimp only); (try rw [if_pos c404]); (try rw [if_neg c404]); (try dsimp only)); done) | (exfalso; clear hA hc hn; grind)) (by first | with_reducible rfl | (dsimp only; (unfold q_and; (try dsimp only); (try rw [if_pos c404]); (try rw [if_neg c404]); (try dsimp only)); done) | ((unfold q_and; (try dsimp only); (try rw [if_pos c404]); (try rw [if_neg c404]); (try dsimp only)); done) | (exfalso; clear hA hc hn; grind)) (by first | with_reducible rfl | (dsimp only; (unfold q_and; (try dsimp only); (try rw [if_pos c404]); (try rw [if_neg c404]); (try dsimp only)); done) | ((unfold q_and; (try dsimp only); (try rw [if_pos c404]); (try rw [if_neg c404]); (try dsimp only)); done) | (exfalso; clear hA hc hn; grind))
  · skip
    refine jr_aload_n d_m_isGoodStep_407 rfl rfl ?_
    refine jr_iconst (v := 2) d_m_isGoodStep_408 (by decide) ?_
    refine jv_V1r d_m_isGoodStep_409 l_m_103 k_m_gives ⟨Nat.le_of_ble_eq_true rfl, Nat.le_of_ble_eq_true rfl⟩ rfl rfl (Nat.le_of_ble_eq_true rfl) (ct_m_gives (by first | with_reducible exact hk | with_reducible exact hk.tk | with_reducible exact hk.tk.tk | with_reducible exact hk.gv)) (by first | decide | exact Nat.zero_le _ | (dsimp only; omega) | (dsimp only; clear hA hc hn; grind)) (by first | decide | exact Nat.zero_le _ | (dsimp only; omega) | (dsimp only; clear hA hc hn; grind)) ?_
    refine jr_if_eq (tgt := 419) d_m_isGoodStep_412 (by decide) (fun c412 => ?_) (fun c412 => ?_)
    · skip
      refine jr_iconst (v := 0) d_m_isGoodStep_419 (by decide) ?_
      exact jr_retX (v := some _) d_m_isGoodStep_420 (by first | exact Nat.le_refl _ | exact Nat.zero_le _ | (dsimp only; omega)) (by first | exact Nat.le_refl _ | exact Nat.zero_le _ | (dsimp only; omega)) (by first | with_reducible rfl | (dsimp only; (unfold q_and; (try dsimp only); (try rw [if_pos c404]); (try rw [if_neg c404]); (try dsimp only); (try rw [if_pos c412]); (try rw [if_neg c412]); (try dsimp only)); done) | ((unfold q_and; (try dsimp only); (try rw [if_pos c404]); (try rw [if_neg c404]); (try dsimp only); (try rw [if_pos c412]); (try rw [if_neg c412]); (try dsimp only)); done) | (exfalso; clear hA hc hn; grind)) (by first | with_reducible rfl | (dsimp only; (unfold q_and; (try dsimp only); (try rw [if_pos c404]); (try rw [if_neg c404]); (try dsimp only); (try rw [if_pos c412]); (try rw [if_neg c412]); (try dsimp only)); done) | ((unfold q_and; (try dsimp only); (try rw [if_pos c404]); (try rw [if_neg c404]); (try dsimp only); (try rw [if_pos c412]); (try rw [if_neg c412]); (try dsimp only)); done) | (exfalso; clear hA hc hn; grind)) (by first | with_reducible rfl | (dsimp only; (unfold q_and; (try dsimp only); (try rw [if_pos c404]); (try rw [if_neg c404]); (try dsimp only); (try rw [if_pos c412]); (try rw [if_neg c412]); (try dsimp only)); done) | ((unfold q_and; (try dsimp only); (try rw [if_pos c404]); (try rw [if_neg c404]); (try dsimp only); (try rw [if_pos c412]); (try rw [if_neg c412]); (try dsimp only)); done) | (exfalso; clear hA hc hn; grind)) (by first | with_reducible rfl | (dsimp only; (unfold q_and; (try dsimp only); (try rw [if_pos c404]); (try rw [if_neg c404]); (try dsimp only); (try rw [if_pos c412]); (try rw [if_neg c412]); (try dsimp only)); done) | ((unfold q_and; (try dsimp only); (try rw [if_pos c404]); (try rw [if_neg c404]); (try dsimp only); (try rw [if_pos c412]); (try rw [if_neg c412]); (try dsimp only)); done) | (exfalso; clear hA hc hn; grind))
    · skip
      refine jr_iconst (v := 1) d_m_isGoodStep_415 (by decide) ?_
      refine jr_goto (tgt := 420) d_m_isGoodStep_416 (by decide) ?_
      exact jr_retX (v := some _) d_m_isGoodStep_420 (by first | exact Nat.le_refl _ | exact Nat.zero_le _ | (dsimp only; omega)) (by first | exact Nat.le_refl _ | exact Nat.zero_le _ | (dsimp only; omega)) (by first | with_reducible rfl | (dsimp only; (unfold q_and; (try dsimp only); (try rw [if_pos c404]); (try rw [if_neg c404]); (try dsimp only); (try rw [if_pos c412]); (try rw [if_neg c412]); (try dsimp only)); done) | ((unfold q_and; (try dsimp only); (try rw [if_pos c404]); (try rw [if_neg c404]); (try dsimp only); (try rw [if_pos c412]); (try rw [if_neg c412]); (try dsimp only)); done) | (exfalso; clear hA hc hn; grind)) (by first | with_reducible rfl | (dsimp only; (unfold q_and; (try dsimp only); (try rw [if_pos c404]); (try rw [if_neg c404]); (try dsimp only); (try rw [if_pos c412]); (try rw [if_neg c412]); (try dsimp only)); done) | ((unfold q_and; (try dsimp only); (try rw [if_pos c404]); (try rw [if_neg c404]); (try dsimp only); (try rw [if_pos c412]); (try rw [if_neg c412]); (try dsimp only)); done) | (exfalso; clear hA hc hn; grind)) (by first | with_reducible rfl | (dsimp only; (unfold q_and; (try dsimp only); (try rw [if_pos c404]); (try rw [if_neg c404]); (try dsimp only); (try rw [if_pos c412]); (try rw [if_neg c412]); (try dsimp only)); done) | ((unfold q_and; (try dsimp only); (try rw [if_pos c404]); (try rw [if_neg c404]); (try dsimp only); (try rw [if_pos c412]); (try rw [if_neg c412]); (try dsimp only)); done) | (exfalso; clear hA hc hn; grind)) (by first | with_reducible rfl | (dsimp only; (unfold q_and; (try dsimp only); (try rw [if_pos c404]); (try rw [if_neg c404]); (try dsimp only); (try rw [if_pos c412]); (try rw [if_neg c412]); (try dsimp only)); done) | ((unfold q_and; (try dsimp only); (try rw [if_pos c404]); (try rw [if_neg c404]); (try dsimp only); (try rw [if_pos c412]); (try rw [if_neg c412]); (try dsimp only)); done) | (exfalso; clear hA hc hn; grind))
theorem ct_m_isGoodStep_24 {I : jc_I} {O : jc_O} {live : jc_L → Prop} {cn c : Nat} {op a : Int32} (hA : qA I O live cn) (hk : qk I O) (hc : qc O c) (hn : qn I c) (ho : op = 24) : jc_Ct y_m_isGoodStep [.inr (some (10, 0, 0)), .inr (some (11, c, 0)), .inl op, .inl a] I O live (some (.inl (q_and (q_tk I 2) (fun J => q_and (q_tk J 2) q_1)).1), (q_and (q_tk I 2) (fun J => q_and (q_tk J 2) q_1)).2, O, live, 0, 0) := by
  obtain ⟨m0, m2, m4, m6, m7⟩ := id hA.1
  obtain ⟨k1, k2, k3⟩ := id hk
  refine jc_Ct.of (by decide +kernel) (Or.inr ⟨rfl, q_and01 (fun _ => q_and01 q_101)⟩) (Nat.le_of_ble_eq_true rfl) ?_
  refine jr_iload_n d_m_isGoodStep_0 rfl rfl ?_
  refine jr_tableIn (tgt := 421) d_m_isGoodStep_1 (by rcases ho with rfl <;> decide) (by rcases ho with rfl <;> decide) (by rcases ho with rfl <;> rfl) (by decide) ?_
  refine jr_aload_n d_m_isGoodStep_421 rfl rfl ?_
  refine jr_iconst (v := 2) d_m_isGoodStep_422 (by decide) ?_
  refine jv_V1r d_m_isGoodStep_423 l_m_106 k_m_takes ⟨Nat.le_of_ble_eq_true rfl, Nat.le_of_ble_eq_true rfl⟩ rfl rfl (Nat.le_of_ble_eq_true rfl) (ct_m_takes (by first | with_reducible exact hk | with_reducible exact hk.tk | with_reducible exact hk.tk.tk | with_reducible exact hk.gv)) (by first | decide | exact Nat.zero_le _ | (dsimp only; omega) | (dsimp only; clear hA hc hn; grind)) (by first | decide | exact Nat.zero_le _ | (dsimp only; omega) | (dsimp only; clear hA hc hn; grind)) ?_
  refine jr_if_eq (tgt := 441) d_m_isGoodStep_426 (by decide) (fun c426 => ?_) (fun c426 => ?_)
  · skip
    refine jr_iconst (v := 0) d_m_isGoodStep_441 (by decide) ?_
    exact jr_retX (v := some _) d_m_isGoodStep_442 (by first | exact Nat.le_refl _ | exact Nat.zero_le _ | (dsimp only; omega)) (by first | exact Nat.le_refl _ | exact Nat.zero_le _ | (dsimp only; omega)) (by first | with_reducible rfl | (dsimp only; (unfold q_and; (try dsimp only); (try rw [if_pos c426]); (try rw [if_neg c426]); (try dsimp only)); done) | ((unfold q_and; (try dsimp only); (try rw [if_pos c426]); (try rw [if_neg c426]); (try dsimp only)); done) | (exfalso; clear hA hc hn; grind)) (by first | with_reducible rfl | (dsimp only; (unfold q_and; (try dsimp only); (try rw [if_pos c426]); (try rw [if_neg c426]); (try dsimp only)); done) | ((unfold q_and; (try dsimp only); (try rw [if_pos c426]); (try rw [if_neg c426]); (try dsimp only)); done) | (exfalso; clear hA hc hn; grind)) (by first | with_reducible rfl | (dsimp only; (unfold q_and; (try dsimp only); (try rw [if_pos c426]); (try rw [if_neg c426]); (try dsimp only)); done) | ((unfold q_and; (try dsimp only); (try rw [if_pos c426]); (try rw [if_neg c426]); (try dsimp only)); done) | (exfalso; clear hA hc hn; grind)) (by first | with_reducible rfl | (dsimp only; (unfold q_and; (try dsimp only); (try rw [if_pos c426]); (try rw [if_neg c426]); (try dsimp only)); done) | ((unfold q_and; (try dsimp only); (try rw [if_pos c426]); (try rw [if_neg c426]); (try dsimp only)); done) | (exfalso; clear hA hc hn; grind))
  · skip
    refine jr_aload_n d_m_isGoodStep_429 rfl rfl ?_
    refine jr_iconst (v := 2) d_m_isGoodStep_430 (by decide) ?_
    refine jv_V1r d_m_isGoodStep_431 l_m_106 k_m_takes ⟨Nat.le_of_ble_eq_true rfl, Nat.le_of_ble_eq_true rfl⟩ rfl rfl (Nat.le_of_ble_eq_true rfl) (ct_m_takes (by first | with_reducible exact hk | with_reducible exact hk.tk | with_reducible exact hk.tk.tk | with_reducible exact hk.gv)) (by first | decide | exact Nat.zero_le _ | (dsimp only; omega) | (dsimp only; clear hA hc hn; grind)) (by first | decide | exact Nat.zero_le _ | (dsimp only; omega) | (dsimp only; clear hA hc hn; grind)) ?_
    refine jr_if_eq (tgt := 441) d_m_isGoodStep_434 (by decide) (fun c434 => ?_) (fun c434 => ?_)
    · skip
      refine jr_iconst (v := 0) d_m_isGoodStep_441 (by decide) ?_
      exact jr_retX (v := some _) d_m_isGoodStep_442 (by first | exact Nat.le_refl _ | exact Nat.zero_le _ | (dsimp only; omega)) (by first | exact Nat.le_refl _ | exact Nat.zero_le _ | (dsimp only; omega)) (by first | with_reducible rfl | (dsimp only; (unfold q_and; (try dsimp only); (try rw [if_pos c426]); (try rw [if_neg c426]); (try dsimp only); (try rw [if_pos c434]); (try rw [if_neg c434]); (try dsimp only)); done) | ((unfold q_and; (try dsimp only); (try rw [if_pos c426]); (try rw [if_neg c426]); (try dsimp only); (try rw [if_pos c434]); (try rw [if_neg c434]); (try dsimp only)); done) | (exfalso; clear hA hc hn; grind)) (by first | with_reducible rfl | (dsimp only; (unfold q_and; (try dsimp only); (try rw [if_pos c426]); (try rw [if_neg c426]); (try dsimp only); (try rw [if_pos c434]); (try rw [if_neg c434]); (try dsimp only)); done) | ((unfold q_and; (try dsimp only); (try rw [if_pos c426]); (try rw [if_neg c426]); (try dsimp only); (try rw [if_pos c434]); (try rw [if_neg c434]); (try dsimp only)); done) | (exfalso; clear hA hc hn; grind)) (by first | with_reducible rfl | (dsimp only; (unfold q_and; (try dsimp only); (try rw [if_pos c426]); (try rw [if_neg c426]); (try dsimp only); (try rw [if_pos c434]); (try rw [if_neg c434]); (try dsimp only)); done) | ((unfold q_and; (try dsimp only); (try rw [if_pos c426]); (try rw [if_neg c426]); (try dsimp only); (try rw [if_pos c434]); (try rw [if_neg c434]); (try dsimp only)); done) | (exfalso; clear hA hc hn; grind)) (by first | with_reducible rfl | (dsimp only; (unfold q_and; (try dsimp only); (try rw [if_pos c426]); (try rw [if_neg c426]); (try dsimp only); (try rw [if_pos c434]); (try rw [if_neg c434]); (try dsimp only)); done) | ((unfold q_and; (try dsimp only); (try rw [if_pos c426]); (try rw [if_neg c426]); (try dsimp only); (try rw [if_pos c434]); (try rw [if_neg c434]); (try dsimp only)); done) | (exfalso; clear hA hc hn; grind))
    · skip
      refine jr_iconst (v := 1) d_m_isGoodStep_437 (by decide) ?_
      refine jr_goto (tgt := 442) d_m_isGoodStep_438 (by decide) ?_
      exact jr_retX (v := some _) d_m_isGoodStep_442 (by first | exact Nat.le_refl _ | exact Nat.zero_le _ | (dsimp only; omega)) (by first | exact Nat.le_refl _ | exact Nat.zero_le _ | (dsimp only; omega)) (by first | with_reducible rfl | (dsimp only; (unfold q_and; (try dsimp only); (try rw [if_pos c426]); (try rw [if_neg c426]); (try dsimp only); (try rw [if_pos c434]); (try rw [if_neg c434]); (try dsimp only)); done) | ((unfold q_and; (try dsimp only); (try rw [if_pos c426]); (try rw [if_neg c426]); (try dsimp only); (try rw [if_pos c434]); (try rw [if_neg c434]); (try dsimp only)); done) | (exfalso; clear hA hc hn; grind)) (by first | with_reducible rfl | (dsimp only; (unfold q_and; (try dsimp only); (try rw [if_pos c426]); (try rw [if_neg c426]); (try dsimp only); (try rw [if_pos c434]); (try rw [if_neg c434]); (try dsimp only)); done) | ((unfold q_and; (try dsimp only); (try rw [if_pos c426]); (try rw [if_neg c426]); (try dsimp only); (try rw [if_pos c434]); (try rw [if_neg c434]); (try dsimp only)); done) | (exfalso; clear hA hc hn; grind)) (by first | with_reducible rfl | (dsimp only; (unfold q_and; (try dsimp only); (try rw [if_pos c426]); (try rw [if_neg c426]); (try dsimp only); (try rw [if_pos c434]); (try rw [if_neg c434]); (try dsimp only)); done) | ((unfold q_and; (try dsimp only); (try rw [if_pos c426]); (try rw [if_neg c426]); (try dsimp only); (try rw [if_pos c434]); (try rw [if_neg c434]); (try dsimp only)); done) | (exfalso; clear hA hc hn; grind)) (by first | with_reducible rfl | (dsimp only; (unfold q_and; (try dsimp only); (try rw [if_pos c426]); (try rw [if_neg c426]); (try dsimp only); (try rw [if_pos c434]); (try rw [if_neg c434]); (try dsimp only)); done) | ((unfold q_and; (try dsimp only); (try rw [if_pos c426]); (try rw [if_neg c426]); (try dsimp only); (try rw [if_pos c434]); (try rw [if_neg c434]); (try dsimp only)); done) | (exfalso; clear hA hc hn; grind))
theorem ct_m_isGoodStep_19 {I : jc_I} {O : jc_O} {live : jc_L → Prop} {cn c : Nat} {op a : Int32} (hA : qA I O live cn) (hk : qk I O) (hc : qc O c) (hn : qn I c) (ho : op = 19 ∨ op = 20 ∨ op = 21 ∨ op = 26) : jc_Ct y_m_isGoodStep [.inr (some (10, 0, 0)), .inr (some (11, c, 0)), .inl op, .inl a] I O live (some (.inl (q_tk I 2).1), (q_tk I 2).2, O, live, 0, 0) := by
  obtain ⟨m0, m2, m4, m6, m7⟩ := id hA.1
  obtain ⟨k1, k2, k3⟩ := id hk
  refine jc_Ct.of (by decide +kernel) (Or.inr ⟨rfl, q_tk01⟩) (Nat.le_of_ble_eq_true rfl) ?_
  refine jr_iload_n d_m_isGoodStep_0 rfl rfl ?_
  refine jr_tableIn (tgt := 443) d_m_isGoodStep_1 (by rcases ho with rfl | rfl | rfl | rfl <;> decide) (by rcases ho with rfl | rfl | rfl | rfl <;> decide) (by rcases ho with rfl | rfl | rfl | rfl <;> rfl) (by decide) ?_
  refine jr_aload_n d_m_isGoodStep_443 rfl rfl ?_
  refine jr_iconst (v := 2) d_m_isGoodStep_444 (by decide) ?_
  refine jv_V1r d_m_isGoodStep_445 l_m_106 k_m_takes ⟨Nat.le_of_ble_eq_true rfl, Nat.le_of_ble_eq_true rfl⟩ rfl rfl (Nat.le_of_ble_eq_true rfl) (ct_m_takes (by first | with_reducible exact hk | with_reducible exact hk.tk | with_reducible exact hk.tk.tk | with_reducible exact hk.gv)) (by first | decide | exact Nat.zero_le _ | (dsimp only; omega) | (dsimp only; clear hA hc hn; grind)) (by first | decide | exact Nat.zero_le _ | (dsimp only; omega) | (dsimp only; clear hA hc hn; grind)) ?_
  exact jr_retX (v := some _) d_m_isGoodStep_448 (by first | exact Nat.le_refl _ | exact Nat.zero_le _ | (dsimp only; omega)) (by first | exact Nat.le_refl _ | exact Nat.zero_le _ | (dsimp only; omega)) (by first | with_reducible rfl | (dsimp only; rfl; done) | (rfl; done) | (exfalso; clear hA hc hn; grind)) (by first | with_reducible rfl | (dsimp only; rfl; done) | (rfl; done) | (exfalso; clear hA hc hn; grind)) (by first | with_reducible rfl | (dsimp only; rfl; done) | (rfl; done) | (exfalso; clear hA hc hn; grind)) (by first | with_reducible rfl | (dsimp only; rfl; done) | (rfl; done) | (exfalso; clear hA hc hn; grind))
theorem ct_m_isGoodStep_22 {I : jc_I} {O : jc_O} {live : jc_L → Prop} {cn c : Nat} {op a : Int32} (hA : qA I O live cn) (hk : qk I O) (hc : qc O c) (hn : qn I c) (ho : op = 22) : jc_Ct y_m_isGoodStep [.inr (some (10, 0, 0)), .inr (some (11, c, 0)), .inl op, .inl a] I O live (some (.inl (q_and (q_tk I (I (11, c, 0) 1)) (fun J => (if J (10, 0, 0) 8 = 0 then 1 else 0, J))).1), (q_and (q_tk I (I (11, c, 0) 1)) (fun J => (if J (10, 0, 0) 8 = 0 then 1 else 0, J))).2, O, live, 0, 0) := by
  obtain ⟨m0, m2, m4, m6, m7⟩ := id hA.1
  obtain ⟨k1, k2, k3⟩ := id hk
  refine jc_Ct.of (by decide +kernel) (Or.inr ⟨rfl, q_and01 q_rt01⟩) (Nat.le_of_ble_eq_true rfl) ?_
  refine jr_iload_n d_m_isGoodStep_0 rfl rfl ?_
  refine jr_tableIn (tgt := 449) d_m_isGoodStep_1 (by rcases ho with rfl <;> decide) (by rcases ho with rfl <;> decide) (by rcases ho with rfl <;> rfl) (by decide) ?_
  refine jr_aload_n d_m_isGoodStep_449 rfl rfl ?_
  refine jr_aload_n d_m_isGoodStep_450 rfl rfl ?_
  refine jr_geti d_m_isGoodStep_451 f_m_117 rfl ?_
  refine jv_V1r d_m_isGoodStep_454 l_m_106 k_m_takes ⟨Nat.le_of_ble_eq_true rfl, Nat.le_of_ble_eq_true rfl⟩ rfl rfl (Nat.le_of_ble_eq_true rfl) (ct_m_takes (by first | with_reducible exact hk | with_reducible exact hk.tk | with_reducible exact hk.tk.tk | with_reducible exact hk.gv)) (by first | decide | exact Nat.zero_le _ | (dsimp only; omega) | (dsimp only; clear hA hc hn; grind)) (by first | decide | exact Nat.zero_le _ | (dsimp only; omega) | (dsimp only; clear hA hc hn; grind)) ?_
  refine jr_if_eq (tgt := 471) d_m_isGoodStep_457 (by decide) (fun c457 => ?_) (fun c457 => ?_)
  · skip
    refine jr_iconst (v := 0) d_m_isGoodStep_471 (by decide) ?_
    exact jr_retX (v := some _) d_m_isGoodStep_472 (by first | exact Nat.le_refl _ | exact Nat.zero_le _ | (dsimp only; omega)) (by first | exact Nat.le_refl _ | exact Nat.zero_le _ | (dsimp only; omega)) (by first | with_reducible rfl | (dsimp only; (unfold q_and; (try dsimp only); (try rw [if_pos c457]); (try rw [if_neg c457]); (try dsimp only)); done) | ((unfold q_and; (try dsimp only); (try rw [if_pos c457]); (try rw [if_neg c457]); (try dsimp only)); done) | (exfalso; clear hA hc hn; grind)) (by first | with_reducible rfl | (dsimp only; (unfold q_and; (try dsimp only); (try rw [if_pos c457]); (try rw [if_neg c457]); (try dsimp only)); done) | ((unfold q_and; (try dsimp only); (try rw [if_pos c457]); (try rw [if_neg c457]); (try dsimp only)); done) | (exfalso; clear hA hc hn; grind)) (by first | with_reducible rfl | (dsimp only; (unfold q_and; (try dsimp only); (try rw [if_pos c457]); (try rw [if_neg c457]); (try dsimp only)); done) | ((unfold q_and; (try dsimp only); (try rw [if_pos c457]); (try rw [if_neg c457]); (try dsimp only)); done) | (exfalso; clear hA hc hn; grind)) (by first | with_reducible rfl | (dsimp only; (unfold q_and; (try dsimp only); (try rw [if_pos c457]); (try rw [if_neg c457]); (try dsimp only)); done) | ((unfold q_and; (try dsimp only); (try rw [if_pos c457]); (try rw [if_neg c457]); (try dsimp only)); done) | (exfalso; clear hA hc hn; grind))
  · skip
    refine jr_aload_n d_m_isGoodStep_460 rfl rfl ?_
    refine jr_geti d_m_isGoodStep_461 f_m_84 rfl ?_
    refine jr_if_ne (tgt := 471) d_m_isGoodStep_464 (by decide) (fun c464 => ?_) (fun c464 => ?_)
    · skip
      refine jr_iconst (v := 0) d_m_isGoodStep_471 (by decide) ?_
      exact jr_retX (v := some _) d_m_isGoodStep_472 (by first | exact Nat.le_refl _ | exact Nat.zero_le _ | (dsimp only; omega)) (by first | exact Nat.le_refl _ | exact Nat.zero_le _ | (dsimp only; omega)) (by first | with_reducible rfl | (dsimp only; (unfold q_and; (try dsimp only); (try rw [if_pos c457]); (try rw [if_neg c457]); (try dsimp only); (try rw [if_pos c464]); (try rw [if_neg c464]); (try dsimp only)); done) | ((unfold q_and; (try dsimp only); (try rw [if_pos c457]); (try rw [if_neg c457]); (try dsimp only); (try rw [if_pos c464]); (try rw [if_neg c464]); (try dsimp only)); done) | (exfalso; clear hA hc hn; grind)) (by first | with_reducible rfl | (dsimp only; (unfold q_and; (try dsimp only); (try rw [if_pos c457]); (try rw [if_neg c457]); (try dsimp only); (try rw [if_pos c464]); (try rw [if_neg c464]); (try dsimp only)); done) | ((unfold q_and; (try dsimp only); (try rw [if_pos c457]); (try rw [if_neg c457]); (try dsimp only); (try rw [if_pos c464]); (try rw [if_neg c464]); (try dsimp only)); done) | (exfalso; clear hA hc hn; grind)) (by first | with_reducible rfl | (dsimp only; (unfold q_and; (try dsimp only); (try rw [if_pos c457]); (try rw [if_neg c457]); (try dsimp only); (try rw [if_pos c464]); (try rw [if_neg c464]); (try dsimp only)); done) | ((unfold q_and; (try dsimp only); (try rw [if_pos c457]); (try rw [if_neg c457]); (try dsimp only); (try rw [if_pos c464]); (try rw [if_neg c464]); (try dsimp only)); done) | (exfalso; clear hA hc hn; grind)) (by first | with_reducible rfl | (dsimp only; (unfold q_and; (try dsimp only); (try rw [if_pos c457]); (try rw [if_neg c457]); (try dsimp only); (try rw [if_pos c464]); (try rw [if_neg c464]); (try dsimp only)); done) | ((unfold q_and; (try dsimp only); (try rw [if_pos c457]); (try rw [if_neg c457]); (try dsimp only); (try rw [if_pos c464]); (try rw [if_neg c464]); (try dsimp only)); done) | (exfalso; clear hA hc hn; grind))
    · skip
      refine jr_iconst (v := 1) d_m_isGoodStep_467 (by decide) ?_
      refine jr_goto (tgt := 472) d_m_isGoodStep_468 (by decide) ?_
      exact jr_retX (v := some _) d_m_isGoodStep_472 (by first | exact Nat.le_refl _ | exact Nat.zero_le _ | (dsimp only; omega)) (by first | exact Nat.le_refl _ | exact Nat.zero_le _ | (dsimp only; omega)) (by first | with_reducible rfl | (dsimp only; (unfold q_and; (try dsimp only); (try rw [if_pos c457]); (try rw [if_neg c457]); (try dsimp only); (try rw [if_pos c464]); (try rw [if_neg c464]); (try dsimp only)); done) | ((unfold q_and; (try dsimp only); (try rw [if_pos c457]); (try rw [if_neg c457]); (try dsimp only); (try rw [if_pos c464]); (try rw [if_neg c464]); (try dsimp only)); done) | (exfalso; clear hA hc hn; grind)) (by first | with_reducible rfl | (dsimp only; (unfold q_and; (try dsimp only); (try rw [if_pos c457]); (try rw [if_neg c457]); (try dsimp only); (try rw [if_pos c464]); (try rw [if_neg c464]); (try dsimp only)); done) | ((unfold q_and; (try dsimp only); (try rw [if_pos c457]); (try rw [if_neg c457]); (try dsimp only); (try rw [if_pos c464]); (try rw [if_neg c464]); (try dsimp only)); done) | (exfalso; clear hA hc hn; grind)) (by first | with_reducible rfl | (dsimp only; (unfold q_and; (try dsimp only); (try rw [if_pos c457]); (try rw [if_neg c457]); (try dsimp only); (try rw [if_pos c464]); (try rw [if_neg c464]); (try dsimp only)); done) | ((unfold q_and; (try dsimp only); (try rw [if_pos c457]); (try rw [if_neg c457]); (try dsimp only); (try rw [if_pos c464]); (try rw [if_neg c464]); (try dsimp only)); done) | (exfalso; clear hA hc hn; grind)) (by first | with_reducible rfl | (dsimp only; (unfold q_and; (try dsimp only); (try rw [if_pos c457]); (try rw [if_neg c457]); (try dsimp only); (try rw [if_pos c464]); (try rw [if_neg c464]); (try dsimp only)); done) | ((unfold q_and; (try dsimp only); (try rw [if_pos c457]); (try rw [if_neg c457]); (try dsimp only); (try rw [if_pos c464]); (try rw [if_neg c464]); (try dsimp only)); done) | (exfalso; clear hA hc hn; grind))
theorem ct_m_isGoodStep_18 {I : jc_I} {O : jc_O} {live : jc_L → Prop} {cn c : Nat} {op a : Int32} (hA : qA I O live cn) (hk : qk I O) (hc : qc O c) (hn : qn I c) (ho : op = 18) : jc_Ct y_m_isGoodStep [.inr (some (10, 0, 0)), .inr (some (11, c, 0)), .inl op, .inl a] I O live (some (.inl (q_gc I a).1), (q_gc I a).2, O, live, 0, 0) := by
  obtain ⟨m0, m2, m4, m6, m7⟩ := id hA.1
  obtain ⟨k1, k2, k3⟩ := id hk
  refine jc_Ct.of (by decide +kernel) (Or.inr ⟨rfl, q_gc01⟩) (Nat.le_of_ble_eq_true rfl) ?_
  refine jr_iload_n d_m_isGoodStep_0 rfl rfl ?_
  refine jr_tableIn (tgt := 473) d_m_isGoodStep_1 (by rcases ho with rfl <;> decide) (by rcases ho with rfl <;> decide) (by rcases ho with rfl <;> rfl) (by decide) ?_
  refine jr_aload_n d_m_isGoodStep_473 rfl rfl ?_
  refine jr_iload_n d_m_isGoodStep_474 rfl rfl ?_
  refine jv_V1r d_m_isGoodStep_475 l_m_120 k_m_isGoodCall ⟨Nat.le_of_ble_eq_true rfl, Nat.le_of_ble_eq_true rfl⟩ rfl rfl (Nat.le_of_ble_eq_true rfl) (ct_m_isGoodCall hA hk) (by first | decide | exact Nat.zero_le _ | (dsimp only; omega) | (dsimp only; clear hA hc hn; grind)) (by first | decide | exact Nat.zero_le _ | (dsimp only; omega) | (dsimp only; clear hA hc hn; grind)) ?_
  exact jr_retX (v := some _) d_m_isGoodStep_478 (by first | exact Nat.le_refl _ | exact Nat.zero_le _ | (dsimp only; omega)) (by first | exact Nat.le_refl _ | exact Nat.zero_le _ | (dsimp only; omega)) (by first | with_reducible rfl | (dsimp only; rfl; done) | (rfl; done) | (exfalso; clear hA hc hn; grind)) (by first | with_reducible rfl | (dsimp only; rfl; done) | (rfl; done) | (exfalso; clear hA hc hn; grind)) (by first | with_reducible rfl | (dsimp only; rfl; done) | (rfl; done) | (exfalso; clear hA hc hn; grind)) (by first | with_reducible rfl | (dsimp only; rfl; done) | (rfl; done) | (exfalso; clear hA hc hn; grind))
theorem ct_m_isGoodStep {I : jc_I} {O : jc_O} {live : jc_L → Prop} {cn c : Nat} {op a : Int32} (hA : qA I O live cn) (hk : qk I O) (hc : qc O c) (hn : qn I c) (h0 : 0 ≤ op) (h26 : op ≤ 26) : jc_Ct y_m_isGoodStep [.inr (some (10, 0, 0)), .inr (some (11, c, 0)), .inl op, .inl a] I O live (some (.inl (q_gs I c op a).1), (q_gs I c op a).2, O, live, 0, 0) := by
  rcases j_0_26 op with h | h | rfl | rfl | rfl | rfl | rfl | rfl | rfl | rfl | rfl | rfl | rfl | rfl | rfl | rfl | rfl | rfl | rfl | rfl | rfl | rfl | rfl | rfl | rfl | rfl | rfl | rfl | rfl
  · exact absurd h (by grind)
  · exact absurd h (by grind)
  · have e := ct_m_isGoodStep_0 (op := 0) (a := a) hA hk hc hn (by decide)
    unfold q_gs; simp +decide only [if_true, if_false]; exact e
  · have e := ct_m_isGoodStep_1 (op := 1) (a := a) hA hk hc hn (by decide)
    unfold q_gs; simp +decide only [if_true, if_false]; exact e
  · have e := ct_m_isGoodStep_2 (op := 2) (a := a) hA hk hc hn (by decide)
    unfold q_gs; simp +decide only [if_true, if_false]; exact e
  · have e := ct_m_isGoodStep_3 (op := 3) (a := a) hA hk hc hn (by decide)
    unfold q_gs; simp +decide only [if_true, if_false]; exact e
  · have e := ct_m_isGoodStep_4 (op := 4) (a := a) hA hk hc hn (by decide)
    unfold q_gs; simp +decide only [if_true, if_false]; exact e
  · have e := ct_m_isGoodStep_4 (op := 5) (a := a) hA hk hc hn (by decide)
    unfold q_gs; simp +decide only [if_true, if_false]; exact e
  · have e := ct_m_isGoodStep_4 (op := 6) (a := a) hA hk hc hn (by decide)
    unfold q_gs; simp +decide only [if_true, if_false]; exact e
  · have e := ct_m_isGoodStep_4 (op := 7) (a := a) hA hk hc hn (by decide)
    unfold q_gs; simp +decide only [if_true, if_false]; exact e
  · have e := ct_m_isGoodStep_4 (op := 8) (a := a) hA hk hc hn (by decide)
    unfold q_gs; simp +decide only [if_true, if_false]; exact e
  · have e := ct_m_isGoodStep_9 (op := 9) (a := a) hA hk hc hn (by decide)
    unfold q_gs; simp +decide only [if_true, if_false]; exact e
  · have e := ct_m_isGoodStep_10 (op := 10) (a := a) hA hk hc hn (by decide)
    unfold q_gs; simp +decide only [if_true, if_false]; exact e
  · have e := ct_m_isGoodStep_11 (op := 11) (a := a) hA hk hc hn (by decide)
    unfold q_gs; simp +decide only [if_true, if_false]; exact e
  · have e := ct_m_isGoodStep_12 (op := 12) (a := a) hA hk hc hn (by decide)
    unfold q_gs; simp +decide only [if_true, if_false]; exact e
  · have e := ct_m_isGoodStep_13 (op := 13) (a := a) hA hk hc hn (by decide)
    unfold q_gs; simp +decide only [if_true, if_false]; exact e
  · have e := ct_m_isGoodStep_1 (op := 14) (a := a) hA hk hc hn (by decide)
    unfold q_gs; simp +decide only [if_true, if_false]; exact e
  · have e := ct_m_isGoodStep_15 (op := 15) (a := a) hA hk hc hn (by decide)
    unfold q_gs; simp +decide only [if_true, if_false]; exact e
  · have e := ct_m_isGoodStep_16 (op := 16) (a := a) hA hk hc hn (by decide)
    unfold q_gs; simp +decide only [if_true, if_false]; exact e
  · have e := ct_m_isGoodStep_17 (op := 17) (a := a) hA hk hc hn (by decide)
    unfold q_gs; simp +decide only [if_true, if_false]; exact e
  · have e := ct_m_isGoodStep_18 (op := 18) (a := a) hA hk hc hn (by decide)
    unfold q_gs; simp +decide only [if_true, if_false]; exact e
  · have e := ct_m_isGoodStep_19 (op := 19) (a := a) hA hk hc hn (by decide)
    unfold q_gs; simp +decide only [if_true, if_false]; exact e
  · have e := ct_m_isGoodStep_19 (op := 20) (a := a) hA hk hc hn (by decide)
    unfold q_gs; simp +decide only [if_true, if_false]; exact e
  · have e := ct_m_isGoodStep_19 (op := 21) (a := a) hA hk hc hn (by decide)
    unfold q_gs; simp +decide only [if_true, if_false]; exact e
  · have e := ct_m_isGoodStep_22 (op := 22) (a := a) hA hk hc hn (by decide)
    unfold q_gs; simp +decide only [if_true, if_false]; exact e
  · have e := ct_m_isGoodStep_23 (op := 23) (a := a) hA hk hc hn (by decide)
    unfold q_gs; simp +decide only [if_true, if_false]; exact e
  · have e := ct_m_isGoodStep_24 (op := 24) (a := a) hA hk hc hn (by decide)
    unfold q_gs; simp +decide only [if_true, if_false]; exact e
  · have e := ct_m_isGoodStep_1 (op := 25) (a := a) hA hk hc hn (by decide)
    unfold q_gs; simp +decide only [if_true, if_false]; exact e
  · have e := ct_m_isGoodStep_19 (op := 26) (a := a) hA hk hc hn (by decide)
    unfold q_gs; simp +decide only [if_true, if_false]; exact e
