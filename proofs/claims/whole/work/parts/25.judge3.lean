/-! what the judge leaves as it was -/
def jE (I J : jc_I) : Prop := ∀ q k, q.1 ≠ 2 → ¬ (25 ≤ q.1 ∧ q.1 ≤ 28) → J q k = I q k
theorem jE.rf {I : jc_I} : jE I I := fun _ _ _ _ => rfl
theorem jE.tr {I J K : jc_I} (h : jE I J) (h2 : jE J K) : jE I K := fun q k a b => (h2 q k a b).trans (h q k a b)
theorem jE.up {I : jc_I} {q : jc_L} {k : Nat} {v : Int32} (h : q.1 = 2 ∨ (25 ≤ q.1 ∧ q.1 ≤ 28)) : jE I (jc_up I q k v) := fun q' k' a b => jc_up_q _ _ _ _ _ _ (fun e => by subst e; rcases h with h | h; exact a h; exact b h)
theorem jE.zr {I : jc_I} {q : jc_L} {n : Nat} {v : Int32} (h : q.1 = 2 ∨ (25 ≤ q.1 ∧ q.1 ≤ 28)) : jE I (jc_zr I q n v) := fun q' k' a b => if_neg (fun e => by rw [e.1] at a b; rcases h with h | h; exact a h; exact b h)
theorem jE.ite {I J K : jc_I} {p : Prop} [Decidable p] (h1 : jE I J) (h2 : jE I K) : jE I (if p then J else K) := by split; exact h1; exact h2
theorem jE_dem {I : jc_I} {b : Int32} : jE I (g_dem I b) := jE.up (Or.inl rfl)
theorem jE_give {I : jc_I} {k : Int32} : jE I (g_give I k) := jE.ite jE_dem ((jE.up (Or.inr ⟨by decide, by decide⟩)).tr (jE.up (Or.inl rfl)))
theorem jE_take {I : jc_I} {k : Int32} : jE I (g_take I k) := jE.ite jE_dem (jE.up (Or.inl rfl))
theorem jE_mark {I : jc_I} {p a : Int32} : jE I (g_mark I p a) := jE.ite (jE.up (Or.inr ⟨by decide, by decide⟩)) jE.rf
theorem jE_leave {I : jc_I} {p : Int32} : jE I (g_leave I p) := jE_dem
theorem jE_arr {I : jc_I} {p b : Int32} : jE I (g_arr I p b) := jE.ite jE_dem (jE.ite ((jE_dem.tr (jE.up (Or.inl rfl))).tr jE_give) (jE_dem.tr (jE.up (Or.inl rfl))))
theorem jE_use {I : jc_I} {op : Int32} : jE I (g_use I op) := by
  unfold g_use
  dsimp only
  have h : jE I (g_take (if op = 17 then g_take I 1 else if op = 24 then g_take I 2 else I) 2) := (jE.ite jE_take (jE.ite jE_take jE.rf)).tr jE_take
  exact jE.ite (h.tr jE_give) (jE.ite (h.tr jE_give) h)
theorem jE_ret {I : jc_I} {c : Nat} : jE I (g_ret I c) := by
  unfold g_ret
  dsimp only
  exact (jE.ite jE_take jE.rf).tr jE_dem
/-- the judge's word is 0 or 1 -/
def g01 (I : jc_I) : Prop := I (2, 0, 0) 7 = 0 ∨ I (2, 0, 0) 7 = 1
theorem g01_dem {I : jc_I} {b : Int32} : g01 (g_dem I b) := by
  unfold g01 g_dem
  rw [jc_up_s]
  split
  · exact Or.inr rfl
  · exact Or.inl rfl
theorem g01_up {I : jc_I} (h : g01 I) {q : jc_L} {k : Nat} {v : Int32} (hk : k ≠ 7 ∨ q ≠ (2, 0, 0)) : g01 (jc_up I q k v) := by
  unfold g01
  have : jc_up I q k v (2, 0, 0) 7 = I (2, 0, 0) 7 := by
    rcases hk with h | h
    · exact jc_up_k _ _ _ _ _ _ (fun e => h e.symm)
    · exact jc_up_q _ _ _ _ _ _ (fun e => h e.symm)
  rw [this]
  exact h
theorem g01_ite {I J : jc_I} {p : Prop} [Decidable p] (h1 : g01 I) (h2 : g01 J) : g01 (if p then I else J) := by split; exact h1; exact h2
theorem g01_give {I : jc_I} (h : g01 I) {k : Int32} : g01 (g_give I k) := g01_ite g01_dem (g01_up (g01_up h (Or.inr (by decide))) (Or.inl (by decide)))
theorem g01_take {I : jc_I} (h : g01 I) {k : Int32} : g01 (g_take I k) := g01_ite g01_dem (g01_up h (Or.inl (by decide)))
theorem g01_leave {I : jc_I} {p : Int32} : g01 (g_leave I p) := g01_dem
theorem g01_arr {I : jc_I} {p b : Int32} : g01 (g_arr I p b) := g01_ite g01_dem (g01_ite (g01_give (g01_up g01_dem (Or.inl (by decide)))) (g01_up g01_dem (Or.inl (by decide))))
theorem g01_use {I : jc_I} (h : g01 I) {op : Int32} : g01 (g_use I op) := by
  unfold g_use
  dsimp only
  have h : g01 (g_take (if op = 17 then g_take I 1 else if op = 24 then g_take I 2 else I) 2) := g01_take (g01_ite (g01_take h) (g01_ite (g01_take h) h))
  exact g01_ite (g01_give h) (g01_ite (g01_give h) h)
/-- all codes, and what is told of them -/
def jw_A (I : jc_I) (O : jc_O) : Prop := O (1, 0, 0) 0 = some (24, 0, 0) ∧ 0 ≤ I (1, 0, 0) 1 ∧ I (1, 0, 0) 1 ≤ 40 ∧ ∀ k : Nat, (k : Int) < (I (1, 0, 0) 1).toInt → O (24, 0, 0) k = some (6, k, 0) ∧ jw_C O k ∧ jw_n I k ∧ jw_r I O k ∧ I (6, k, 0) 0 = Int32.ofNat k ∧ 0 ≤ I (6, k, 0) 1 ∧ I (6, k, 0) 1 ≤ 8
theorem jE.n {I J : jc_I} (h : jE I J) {c : Nat} (hn : jw_n I c) : jw_n J c := by
  unfold jw_n at *
  rw [h (6, c, 0) 7 (by simp) (by simp), h (6, c, 0) 8 (by simp) (by simp), h (6, c, 0) 9 (by simp) (by simp)]
  exact hn
theorem jE.r {I J : jc_I} (h : jE I J) {O : jc_O} {c : Nat} (hr : jw_r I O c) : jw_r J O c := by
  unfold jw_r at *
  rw [h (6, c, 0) 9 (by simp) (by simp)]
  exact hr
theorem jE.A {I J : jc_I} (h : jE I J) {O : jc_O} (hA : jw_A I O) : jw_A J O := by
  obtain ⟨h1, h2, h3, h4⟩ := hA
  have e := h (1, 0, 0) 1 (by decide) (by simp)
  refine ⟨h1, by rw [e]; exact h2, by rw [e]; exact h3, fun k hk => ?_⟩
  rw [e] at hk
  obtain ⟨a1, a2, a3, a4, a5, a6, a7⟩ := h4 k hk
  refine ⟨a1, a2, h.n a3, h.r a4, ?_, ?_, ?_⟩
  · rw [h (6, k, 0) 0 (by simp) (by simp)]; exact a5
  · rw [h (6, k, 0) 1 (by simp) (by simp)]; exact a6
  · rw [h (6, k, 0) 1 (by simp) (by simp)]; exact a7
/-! marks -/
def g_m1 (c : Nat) : Nat → Nat → jc_I → jc_I
  | 0, _, J => J
  | m + 1, r, J => g_m1 c m (r + 1) (if J (21, c, 0) r = 11 ∨ J (21, c, 0) r = 12 ∨ J (21, c, 0) r = 13 then g_mark J (J (22, c, 0) r) 1 else J)
def g_m2 (c : Nat) : Nat → Nat → jc_I → jc_I
  | 0, _, J => J
  | m + 1, r, J => g_m2 c m (r + 1) (g_mark (g_mark (g_mark J (J (5, c, r) 0) 1) (J (5, c, r) 1) 1) (J (5, c, r) 2) 2)
theorem jE_m1 {c : Nat} : ∀ (m r : Nat) (J : jc_I), jE J (g_m1 c m r J)
  | 0, _, _ => jE.rf
  | m + 1, r, J => (jE.ite jE_mark jE.rf).tr (jE_m1 m (r + 1) _)
theorem jE_m2 {c : Nat} : ∀ (m r : Nat) (J : jc_I), jE J (g_m2 c m r J)
  | 0, _, _ => jE.rf
  | m + 1, r, J => ((jE_mark.tr jE_mark).tr jE_mark).tr (jE_m2 m (r + 1) _)
def g_marks (I : jc_I) (c : Nat) : jc_I := g_m2 c (I (6, c, 0) 9).toNatClampNeg 0 (g_m1 c (I (6, c, 0) 8).toNatClampNeg 0 (jc_zr I (25, 0, 0) 61 0))
theorem jE_marks {I : jc_I} {c : Nat} : jE I (g_marks I c) := ((jE.zr (Or.inr ⟨by decide, by decide⟩)).tr (jE_m1 _ _ _)).tr (jE_m2 _ _ _)
theorem g_mark_ne {J : jc_I} {p a : Int32} {q : jc_L} {k : Nat} (h : Nat.beq q.1 25 = false) : g_mark J p a q k = J q k := by
  unfold g_mark
  split
  · exact jc_up_q _ _ _ _ _ _ (fun e => by rw [e] at h; cases h)
  · rfl
theorem lp_G_markPlaces3 {O : jc_O} {live : jc_L → Prop} {c : Nat} (hG : jw_G O) (hC : jw_C O c) : ∀ (m : Nat) (i : Int32) (u : Option jc_V) (J : jc_I) (hn : jw_n J c) (hr : jw_r J O c), 0 ≤ i → (J (6, c, 0) 9).toInt - i.toInt = (m : Int) → jc_R y_G_markPlaces 60 [some (.inr (some (2, 0, 0))), some (.inr (some (6, c, 0))), some (.inl i), u] [] J O live 0 0 (none, g_m2 c m i.toNatClampNeg J, O, live, 0, 0) := by
  intro m
  induction m with
  | zero =>
    intro i u J hn hr hi0 hm
    have ez := jf0 hm
    refine jr_iload_n d_G_markPlaces_60 rfl rfl ?_
    refine jr_aload_n d_G_markPlaces_61 rfl rfl ?_
    refine jv_V0r d_G_markPlaces_62 l_G_106 k_C_rowCount ⟨Nat.le_of_ble_eq_true rfl, Nat.le_of_ble_eq_true rfl⟩ rfl rfl (Nat.le_of_ble_eq_true rfl) (ct_C_rowCount) (by grind) (by grind) ?_
    refine jr_icmp_ge (tgt := 111) d_G_markPlaces_65 (by decide) (fun c65 => ?_) (fun c65 => ?_)
    · skip
      exact jr_retX (v := none) d_G_markPlaces_111 (by first | exact Nat.le_refl _ | exact Nat.zero_le _ | (dsimp only; omega)) (by first | exact Nat.le_refl _ | exact Nat.zero_le _ | (dsimp only; omega)) (by first | with_reducible rfl | (dsimp only; rfl; done) | (exfalso; grind)) (by first | with_reducible rfl | (dsimp only; rfl; done) | (exfalso; grind)) (by first | with_reducible rfl | (dsimp only; rfl; done) | (exfalso; grind)) (by first | with_reducible rfl | (dsimp only; rfl; done) | (exfalso; grind))
    · skip
      exfalso; grind
  | succ m ih =>
    intro i u J hn hr hi0 hm
    have hlt := jfu hm
    obtain ⟨hC3, hC4, hC5, hC6⟩ := id hC
    obtain ⟨n7, n7b, n8, n8b, n9, n9b⟩ := id hn
    refine jr_iload_n d_G_markPlaces_60 rfl rfl ?_
    refine jr_aload_n d_G_markPlaces_61 rfl rfl ?_
    refine jv_V0r d_G_markPlaces_62 l_G_106 k_C_rowCount ⟨Nat.le_of_ble_eq_true rfl, Nat.le_of_ble_eq_true rfl⟩ rfl rfl (Nat.le_of_ble_eq_true rfl) (ct_C_rowCount) (by clear ih; grind) (by clear ih; grind) ?_
    refine jr_icmp_ge (tgt := 111) d_G_markPlaces_65 (by decide) (fun c65 => ?_) (fun c65 => ?_)
    · skip
      exfalso; clear ih; grind
    · skip
      refine jr_aload_n d_G_markPlaces_68 rfl rfl ?_
      refine jr_iload_n d_G_markPlaces_69 rfl rfl ?_
      refine jv_V1r d_G_markPlaces_70 l_G_109 k_C_rowAt ⟨Nat.le_of_ble_eq_true rfl, Nat.le_of_ble_eq_true rfl⟩ rfl rfl (Nat.le_of_ble_eq_true rfl) (ct_C_rowAt hC6 n9b) (by clear ih; grind) (by clear ih; grind) ?_
      rw [if_pos ⟨by clear ih; grind, by clear ih; grind⟩, hr _ (jlN hi0 hlt)]
      refine jr_astore_n d_G_markPlaces_73 rfl (Nat.le_of_ble_eq_true rfl) ?_
      refine jr_aload_n d_G_markPlaces_74 rfl rfl ?_
      refine jr_ifnull (tgt := 105) d_G_markPlaces_75 (by decide) (fun c75 => by cases c75) (fun q75 c75 => ?_)
      refine jr_aload_n d_G_markPlaces_78 rfl rfl ?_
      refine jr_aload_n d_G_markPlaces_79 rfl rfl ?_
      refine jr_geti d_G_markPlaces_80 f_G_113 rfl ?_
      refine jr_iconst (v := 1) d_G_markPlaces_83 (by decide) ?_
      refine jv_V2v d_G_markPlaces_84 l_G_124 k_G_mark ⟨Nat.le_of_ble_eq_true rfl, Nat.le_of_ble_eq_true rfl⟩ rfl rfl (Nat.le_of_ble_eq_true rfl) (ct_G_mark hG) (by clear ih; grind) (by clear ih; grind) ?_
      refine jr_aload_n d_G_markPlaces_87 rfl rfl ?_
      refine jr_aload_n d_G_markPlaces_88 rfl rfl ?_
      refine jr_geti d_G_markPlaces_89 f_G_118 rfl ?_
      rw [g_mark_ne rfl]
      refine jr_iconst (v := 1) d_G_markPlaces_92 (by decide) ?_
      refine jv_V2v d_G_markPlaces_93 l_G_124 k_G_mark ⟨Nat.le_of_ble_eq_true rfl, Nat.le_of_ble_eq_true rfl⟩ rfl rfl (Nat.le_of_ble_eq_true rfl) (ct_G_mark hG) (by clear ih; grind) (by clear ih; grind) ?_
      refine jr_aload_n d_G_markPlaces_96 rfl rfl ?_
      refine jr_aload_n d_G_markPlaces_97 rfl rfl ?_
      refine jr_geti d_G_markPlaces_98 f_G_121 rfl ?_
      rw [g_mark_ne rfl, g_mark_ne rfl]
      refine jr_iconst (v := 2) d_G_markPlaces_101 (by decide) ?_
      refine jv_V2v d_G_markPlaces_102 l_G_124 k_G_mark ⟨Nat.le_of_ble_eq_true rfl, Nat.le_of_ble_eq_true rfl⟩ rfl rfl (Nat.le_of_ble_eq_true rfl) (ct_G_mark hG) (by clear ih; grind) (by clear ih; grind) ?_
      refine jr_iinc d_G_markPlaces_105 rfl jinc1 ?_
      refine jr_goto (tgt := 60) d_G_markPlaces_108 (by decide) ?_
      exact (by have e := ih (i + 1) (some (.inr (some (5, c, i.toNatClampNeg)))) (g_mark (g_mark (g_mark J (J (5, c, i.toNatClampNeg) 0) 1) (J (5, c, i.toNatClampNeg) 1) 1) (J (5, c, i.toNatClampNeg) 2) 2) (((jE_mark.tr jE_mark).tr jE_mark).n hn) (((jE_mark.tr jE_mark).tr jE_mark).r hr) (by clear ih; grind) (by rw [g_mark_ne rfl, g_mark_ne rfl, g_mark_ne rfl]; exact jf1 hm); rw [jN1' hi0 hlt] at e; exact e)
theorem lp_G_markPlaces2 {O : jc_O} {live : jc_L → Prop} {c : Nat} (hG : jw_G O) (hC : jw_C O c) : ∀ (m : Nat) (i : Int32) (J : jc_I) (hn : jw_n J c) (hr : jw_r J O c), 0 ≤ i → (J (6, c, 0) 8).toInt - i.toInt = (m : Int) → jc_R y_G_markPlaces 23 [some (.inr (some (2, 0, 0))), some (.inr (some (6, c, 0))), some (.inl i), none] [] J O live 0 0 (none, g_m2 c (J (6, c, 0) 9).toNatClampNeg 0 (g_m1 c m i.toNatClampNeg J), O, live, 0, 0) := by
  intro m
  induction m with
  | zero =>
    intro i J hn hr hi0 hm
    have ez := jf0 hm
    refine jr_iload_n d_G_markPlaces_23 rfl rfl ?_
    refine jr_aload_n d_G_markPlaces_24 rfl rfl ?_
    refine jv_V0r d_G_markPlaces_25 l_G_29 k_C_size ⟨Nat.le_of_ble_eq_true rfl, Nat.le_of_ble_eq_true rfl⟩ rfl rfl (Nat.le_of_ble_eq_true rfl) (ct_C_size) (by grind) (by grind) ?_
    refine jr_icmp_ge (tgt := 58) d_G_markPlaces_28 (by decide) (fun c28 => ?_) (fun c28 => ?_)
    · skip
      refine jr_iconst (v := 0) d_G_markPlaces_58 (by decide) ?_
      refine jr_istore_n d_G_markPlaces_59 rfl (Nat.le_of_ble_eq_true rfl) ?_
      exact lp_G_markPlaces3 hG hC _ 0 none _ hn hr (by decide) (jfn hn.2.2.2.2.1)
    · skip
      exfalso; grind
  | succ m ih =>
    intro i J hn hr hi0 hm
    have hlt := jfu hm
    obtain ⟨hC3, hC4, hC5, hC6⟩ := id hC
    obtain ⟨n7, n7b, n8, n8b, n9, n9b⟩ := id hn
    refine jr_iload_n d_G_markPlaces_23 rfl rfl ?_
    refine jr_aload_n d_G_markPlaces_24 rfl rfl ?_
    refine jv_V0r d_G_markPlaces_25 l_G_29 k_C_size ⟨Nat.le_of_ble_eq_true rfl, Nat.le_of_ble_eq_true rfl⟩ rfl rfl (Nat.le_of_ble_eq_true rfl) (ct_C_size) (by clear ih; grind) (by clear ih; grind) ?_
    refine jr_icmp_ge (tgt := 58) d_G_markPlaces_28 (by decide) (fun c28 => ?_) (fun c28 => ?_)
    · skip
      exfalso; clear ih; grind
    · skip
      refine jr_aload_n d_G_markPlaces_31 rfl rfl ?_
      refine jr_iload_n d_G_markPlaces_32 rfl rfl ?_
      refine jv_V1r d_G_markPlaces_33 l_G_35 k_C_op ⟨Nat.le_of_ble_eq_true rfl, Nat.le_of_ble_eq_true rfl⟩ rfl rfl (Nat.le_of_ble_eq_true rfl) (ct_C_op hC4 n8b) (by clear ih; grind) (by clear ih; grind) ?_
      rw [if_pos ⟨by clear ih; grind, by clear ih; grind⟩]
      refine jv_SN1r d_G_markPlaces_36 l_G_100 k_J_isJump ⟨Nat.le_of_ble_eq_true rfl, Nat.le_of_ble_eq_true rfl⟩ (Nat.le_of_ble_eq_true rfl) (ct_J_isJump) (by clear ih; grind) (by clear ih; grind) ?_
      refine jr_if_eq (tgt := 52) d_G_markPlaces_39 (by decide) (fun c39 => ?_) (fun c39 => ?_)
      · skip
        refine jr_iinc d_G_markPlaces_52 rfl jinc1 ?_
        refine jr_goto (tgt := 23) d_G_markPlaces_55 (by decide) ?_
        exact (by have e := ih (i + 1) _ hn hr (by clear ih; grind) (jf1 hm); rw [jN1' hi0 hlt] at e; rw [g_m1, if_neg (by clear ih e; grind)]; exact e)
      · skip
        refine jr_aload_n d_G_markPlaces_42 rfl rfl ?_
        refine jr_aload_n d_G_markPlaces_43 rfl rfl ?_
        refine jr_iload_n d_G_markPlaces_44 rfl rfl ?_
        refine jv_V1r d_G_markPlaces_45 l_G_72 k_C_operand ⟨Nat.le_of_ble_eq_true rfl, Nat.le_of_ble_eq_true rfl⟩ rfl rfl (Nat.le_of_ble_eq_true rfl) (ct_C_operand hC5 n8b) (by clear ih; grind) (by clear ih; grind) ?_
        rw [if_pos ⟨by clear ih; grind, by clear ih; grind⟩]
        refine jr_iconst (v := 1) d_G_markPlaces_48 (by decide) ?_
        refine jv_V2v d_G_markPlaces_49 l_G_124 k_G_mark ⟨Nat.le_of_ble_eq_true rfl, Nat.le_of_ble_eq_true rfl⟩ rfl rfl (Nat.le_of_ble_eq_true rfl) (ct_G_mark hG) (by clear ih; grind) (by clear ih; grind) ?_
        refine jr_iinc d_G_markPlaces_52 rfl jinc1 ?_
        refine jr_goto (tgt := 23) d_G_markPlaces_55 (by decide) ?_
        exact (by have e := ih (i + 1) (g_mark J (J (22, c, 0) i.toNatClampNeg) 1) (jE_mark.n hn) (jE_mark.r hr) (by clear ih; grind) (by rw [g_mark_ne rfl]; exact jf1 hm); rw [jN1' hi0 hlt, g_mark_ne rfl] at e; rw [g_m1, if_pos (by clear ih e; grind)]; exact e)
theorem lp_G_markPlaces1 {I : jc_I} {O : jc_O} {live : jc_L → Prop} {c : Nat} (hG : jw_G O) (hC : jw_C O c) (hn : jw_n I c) (hr : jw_r I O c) : ∀ (m : Nat) (i : Int32), 0 ≤ i → i ≤ 61 → (61 : Int32).toInt - i.toInt < (m : Int) → jc_R y_G_markPlaces 2 [some (.inr (some (2, 0, 0))), some (.inr (some (6, c, 0))), some (.inl i), none] [] (jc_zr I (25, 0, 0) i.toNatClampNeg 0) O live 0 0 (none, g_marks I c, O, live, 0, 0) := by
  intro m
  obtain ⟨hG0, hG1, hG2, hG3, hG4⟩ := id hG
  induction m with
  | zero => intro i hi0 h8 hm; exact (jm0 h8 hm).elim
  | succ m ih =>
    intro i hi0 h8 hm
    refine jr_iload_n d_G_markPlaces_2 rfl rfl ?_
    refine jr_bipush (v := 60) d_G_markPlaces_3 (by decide) ?_
    refine jr_icmp_gt (tgt := 21) d_G_markPlaces_5 (by decide) (fun c5 => ?_) (fun c5 => ?_)
    · skip
      refine jr_iconst (v := 0) d_G_markPlaces_21 (by decide) ?_
      refine jr_istore_n d_G_markPlaces_22 rfl (Nat.le_of_ble_eq_true rfl) ?_
      exact (by obtain rfl : i = 61 := (by clear ih; grind); exact lp_G_markPlaces2 hG hC _ 0 _ ((jE.zr (Or.inr ⟨by decide, by decide⟩)).n hn) ((jE.zr (Or.inr ⟨by decide, by decide⟩)).r hr) (by decide) (jfn (((jE.zr (Or.inr ⟨by decide, by decide⟩)).n hn).2.2.1)))
    · skip
      refine jr_aload_n d_G_markPlaces_8 rfl rfl ?_
      refine jr_getr d_G_markPlaces_9 f_G_9 rfl rfl ?_
      first | rw [hG1] | skip
      refine jr_iload_n d_G_markPlaces_12 rfl rfl ?_
      refine jr_iconst (v := 0) d_G_markPlaces_13 (by decide) ?_
      refine jr_iast d_G_markPlaces_14 rfl rfl rfl (jin (m := 61) (by decide) (by clear ih; grind) (by clear ih; grind)) ?_
      rw [jc_zr_s]
      refine jr_iinc d_G_markPlaces_15 rfl jinc1 ?_
      refine jr_goto (tgt := 2) d_G_markPlaces_18 (by decide) ?_
      exact (by have e := ih (i + 1) (by clear ih; grind) (by clear ih; grind) (jme (n := 61) (by clear ih; grind) hm); rw [jN1 (by clear ih e; grind) (by clear ih e; grind)] at e; exact e)
theorem ct_G_markPlaces {I : jc_I} {O : jc_O} {live : jc_L → Prop} {c : Nat} (hG : jw_G O) (hC : jw_C O c) (hn : jw_n I c) (hr : jw_r I O c) : jc_Ct y_G_markPlaces [.inr (some (2, 0, 0)), .inr (some (6, c, 0))] I O live (none, g_marks I c, O, live, 0, 0) := by
  refine jc_Ct.of (by decide +kernel) (rfl) (Nat.le_of_ble_eq_true rfl) ?_
  refine jr_iconst (v := 0) d_G_markPlaces_0 (by decide) ?_
  refine jr_istore_n d_G_markPlaces_1 rfl (Nat.le_of_ble_eq_true rfl) ?_
  exact (by have e := lp_G_markPlaces1 (live := live) hG hC hn hr 62 0 (by decide) (by decide) (by decide); rw [j00, jc_zr_0] at e; exact e)
