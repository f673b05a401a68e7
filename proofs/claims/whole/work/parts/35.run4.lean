/-- J is I but at labels of the kinds ts -/
def jk (ts : List Nat) (I J : jc_I) : Prop := ∀ (q : jc_L) (k : Nat), q.1 ∉ ts → J q k = I q k
theorem jk.rf {I : jc_I} : jk [] I I := fun _ _ _ => rfl
theorem jk.tr {a b : List Nat} {I J K : jc_I} (h : jk a I J) (h2 : jk b J K) : jk (a ++ b) I K := fun q k hq => (h2 q k (fun e => hq (List.mem_append_right _ e))).trans (h q k (fun e => hq (List.mem_append_left _ e)))
theorem jk.up {I : jc_I} {a : Nat} {u : Nat × Nat} {k : Nat} {v : Int32} : jk [a] I (jc_up I (a, u) k v) := fun q' k' h => jc_up_q _ _ _ _ _ _ (fun e => h (by rw [e]; exact List.mem_singleton.mpr rfl))
theorem jk.ite {a : List Nat} {I J K : jc_I} {p : Prop} [Decidable p] (h1 : jk a I J) (h2 : jk a I K) : jk a I (if p then J else K) := by split; exact h1; exact h2
theorem jk.more {a b : List Nat} {I J : jc_I} (h : jk a I J) (hb : ∀ x ∈ a, x ∈ b) : jk b I J := fun q k hq => h q k (fun e => hq (hb _ e))
theorem jk.n {a : List Nat} {I J : jc_I} (h : jk a I J) (h6 : 6 ∉ a) {c : Nat} (hn : jw_n I c) : jw_n J c := by
  unfold jw_n at *
  rw [h (6, c, 0) 7 h6, h (6, c, 0) 8 h6, h (6, c, 0) 9 h6]
  exact hn
theorem jk.r {a : List Nat} {I J : jc_I} (h : jk a I J) (h6 : 6 ∉ a) {O : jc_O} {c : Nat} (hr : jw_r I O c) : jw_r J O c := by
  unfold jw_r at *
  rw [h (6, c, 0) 9 h6]
  exact hr
theorem jk.A {a : List Nat} {I J : jc_I} (h : jk a I J) (h1 : 1 ∉ a) (h6 : 6 ∉ a) {O : jc_O} (hA : jw_A I O) : jw_A J O := by
  obtain ⟨a1, a2, a3, a4⟩ := hA
  have e := h (1, 0, 0) 1 h1
  refine ⟨a1, by rw [e]; exact a2, by rw [e]; exact a3, fun k hk => ?_⟩
  rw [e] at hk
  obtain ⟨b1, b2, b3, b4, b5, b6, b7⟩ := a4 k hk
  refine ⟨b1, b2, h.n h6 b3, h.r h6 b4, ?_, ?_, ?_⟩
  · rw [h (6, k, 0) 0 h6]; exact b5
  · rw [h (6, k, 0) 1 h6]; exact b6
  · rw [h (6, k, 0) 1 h6]; exact b7
theorem jk_pop {I : jc_I} {t j : Nat} : jk [8] I (f_pop I t j) := jk.up
theorem jk_on {I : jc_I} {t j : Nat} : jk [8] I (f_on I t j) := jk.up
theorem jk_psh {I : jc_I} {t j : Nat} {x : Int32} : jk [32, 8] I (f_psh I t j x) := jk.ite (jk.up.tr jk.up) (jk.rf.more (fun _ h => absurd h List.not_mem_nil))
theorem jk_sl {I : jc_I} {t j : Nat} {i x : Int32} : jk [33] I (f_sl I t j i x) := jk.ite jk.up (jk.rf.more (fun _ h => absurd h List.not_mem_nil))
theorem jk_ef {I : jc_I} {t : Nat} : jk [9] I (s_ef I t) := jk.up
theorem jk_bg {I : jc_I} {t j : Nat} : jk [8, 33] I (f_bg I t j) := fun q k h => by
  obtain ⟨a, u⟩ := q
  exact f_bg_t (fun e => h (by simp [e])) (fun e => h (by simp [e]))
/-! a call of a code -/
def c_par (t j i0 : Nat) : Nat → Int32 → jc_I → jc_I
  | 0, _, J => J
  | m + 1, i, J => c_par t j i0 m (i - 1) (f_sl (f_pop J t j) t i0 i (f_tp J t j))
theorem jk_par {t j i0 : Nat} : ∀ (m : Nat) (i : Int32) (J : jc_I), jk [8, 33] J (c_par t j i0 m i J)
  | 0, _, _ => jk.rf.more (fun _ h => absurd h List.not_mem_nil)
  | m + 1, i, J => ((jk_pop.tr jk_sl).tr (jk_par m (i - 1) _)).more (by simp)
theorem jw_d.sl {I : jc_I} {t j a : Nat} {i x : Int32} (h : jw_d I t j) : jw_d (f_sl I t a i x) t j := by
  unfold jw_d at *
  rw [jk_sl (8, t, j) 3 (by simp)]
  exact h
theorem lp_M_callCode {O : jc_O} {live : jc_L → Prop} {t j i0 d : Nat} (hf : jw_f O t j) (hl : O (8, t, i0) 1 = some (33, t, i0)) : ∀ (m : Nat) (i : Int32) (J : jc_I), jw_d J t j → i.toInt + 1 = (m : Int) → jc_R y_M_callCode 29 [some (.inr (some (4, 0, 0))), some (.inr (some (9, t, 0))), some (.inr (some (8, t, j))), some (.inr (some (6, d, 0))), some (.inr (some (8, t, i0))), some (.inl i)] [] J O live 0 0 (none, c_par t j i0 m i J, O, live, 0, 0) := by
  intro m
  induction m with
  | zero =>
    intro i J hd hm
    have ez : i < 0 := by rw [jlt, j0I]; omega
    refine jr_iload d_M_callCode_29 rfl ?_
    refine jr_if_lt (tgt := 51) d_M_callCode_31 (by decide) (fun c31 => ?_) (fun c31 => ?_)
    · skip
      exact jr_retX (v := none) d_M_callCode_51 (by first | exact Nat.le_refl _ | exact Nat.zero_le _ | (dsimp only; omega)) (by first | exact Nat.le_refl _ | exact Nat.zero_le _ | (dsimp only; omega)) (by first | with_reducible rfl | (dsimp only; rfl; done) | (exfalso; grind)) (by first | with_reducible rfl | (dsimp only; rfl; done) | (exfalso; grind)) (by first | with_reducible rfl | (dsimp only; rfl; done) | (exfalso; grind)) (by first | with_reducible rfl | (dsimp only; rfl; done) | (exfalso; grind))
    · skip
      exfalso; grind
  | succ m ih =>
    intro i J hd hm
    have hi0 : 0 ≤ i := by rw [jle, j0I]; omega
    refine jr_iload d_M_callCode_29 rfl ?_
    refine jr_if_lt (tgt := 51) d_M_callCode_31 (by decide) (fun c31 => ?_) (fun c31 => ?_)
    · skip
      exfalso; clear ih; grind
    · skip
      refine jr_aload d_M_callCode_34 rfl ?_
      refine jr_iload d_M_callCode_36 rfl ?_
      refine jr_aload_n d_M_callCode_38 rfl rfl ?_
      refine jv_V0r d_M_callCode_39 l_M_162 k_F_pop ⟨Nat.le_of_ble_eq_true rfl, Nat.le_of_ble_eq_true rfl⟩ rfl rfl (Nat.le_of_ble_eq_true rfl) (show jc_Ct y_F_pop _ _ _ _ (some (.inl (f_tp _ _ _)), f_pop _ _ _, _, _, 0, 0) from ct_F_pop hf.1 hd.2) (by first | decide | (dsimp only; omega) | (dsimp only; clear ih; grind)) (by first | decide | (dsimp only; omega) | (dsimp only; clear ih; grind)) ?_
      refine jv_V2v d_M_callCode_42 l_M_193 k_F_setLocal ⟨Nat.le_of_ble_eq_true rfl, Nat.le_of_ble_eq_true rfl⟩ rfl rfl (Nat.le_of_ble_eq_true rfl) (show jc_Ct y_F_setLocal _ _ _ _ (none, f_sl _ _ _ _ _, _, _, 0, 0) from ct_F_setLocal hl) (by first | decide | (dsimp only; omega) | (dsimp only; clear ih; grind)) (by first | decide | (dsimp only; omega) | (dsimp only; clear ih; grind)) ?_
      refine jr_iinc d_M_callCode_45 rfl jincm1 ?_
      refine jr_goto (tgt := 29) d_M_callCode_48 (by decide) ?_
      exact (by have e := ih (i - 1) (f_sl (f_pop J t j) t i0 i (f_tp J t j)) hd.pop.sl (by rw [jsub0 hi0]; omega); rw [c_par]; exact e)
def m_ccI (I : jc_I) (t j d : Nat) : jc_I := c_par t j (I (9, t, 0) 2).toNatClampNeg (I (6, d, 0) 1).toNatClampNeg (I (6, d, 0) 1 - 1) (jc_up (f_bg I t (I (9, t, 0) 2).toNatClampNeg) (9, t, 0) 2 (I (9, t, 0) 2 + 1))
def m_ccO (I : jc_I) (O : jc_O) (t d : Nat) : jc_O := jc_up O (8, t, (I (9, t, 0) 2).toNatClampNeg) 2 (some (6, d, 0))
theorem ct_M_callCode {I : jc_I} {O : jc_O} {live : jc_L → Prop} {t j d : Nat} (h1 : O (9, t, 0) 1 = some (34, t, 0)) (hp : 0 ≤ I (9, t, 0) 2) (hlt : I (9, t, 0) 2 < 30) (hj : O (34, t, 0) (I (9, t, 0) 2).toNatClampNeg = some (8, t, (I (9, t, 0) 2).toNatClampNeg)) (hg : jw_f O t (I (9, t, 0) 2).toNatClampNeg) (hf : jw_f O t j) (hd : jw_d I t j) (hne : j ≠ (I (9, t, 0) 2).toNatClampNeg) (hpp : 0 ≤ I (6, d, 0) 1) : jc_Ct y_M_callCode [.inr (some (4, 0, 0)), .inr (some (9, t, 0)), .inr (some (8, t, j)), .inr (some (6, d, 0))] I O live (none, m_ccI I t j d, m_ccO I O t d, live, 0, 0) := by
  refine jc_Ct.of (by decide +kernel) (rfl) (Nat.le_of_ble_eq_true rfl) ?_
  refine jr_aload_n d_M_callCode_0 rfl rfl ?_
  refine jr_ifnonnull (tgt := 8) d_M_callCode_1 (by decide) (fun q1 c1 => ?_) (fun c1 => by cases c1)
  refine jr_aload_n d_M_callCode_8 rfl rfl ?_
  refine jr_aload_n d_M_callCode_9 rfl rfl ?_
  refine jv_V1r d_M_callCode_10 l_M_218 k_S_beginFrame ⟨Nat.le_of_ble_eq_true rfl, Nat.le_of_ble_eq_true rfl⟩ rfl rfl (Nat.le_of_ble_eq_true rfl) (ct_S_beginFrame h1 hp hlt hj hg.2) (by first | decide | (dsimp only; omega) | (dsimp only; grind)) (by first | decide | (dsimp only; omega) | (dsimp only; grind)) ?_
  refine jr_astore d_M_callCode_13 (Nat.le_of_ble_eq_true rfl) ?_
  refine jr_aload d_M_callCode_15 rfl ?_
  refine jr_ifnonnull (tgt := 21) d_M_callCode_17 (by decide) (fun q17 c17 => ?_) (fun c17 => by cases c17)
  refine jr_aload_n d_M_callCode_21 rfl rfl ?_
  refine jr_geti d_M_callCode_22 f_M_39 rfl ?_
  rw [jc_up_t _ _ _ _ _ _ _ _ (by decide), f_bg_t (by decide) (by decide)]
  refine jr_iconst (v := 1) d_M_callCode_25 (by decide) ?_
  refine jr_isub d_M_callCode_26 ?_
  refine jr_istore d_M_callCode_27 (Nat.le_of_ble_eq_true rfl) ?_
  exact (by have hfO : jw_f (jc_up O (8, t, (I (9, t, 0) 2).toNatClampNeg) 2 (some (6, d, 0))) t j := (by unfold jw_f at *; rw [jc_up_k _ _ _ _ _ _ (by decide), jc_up_k _ _ _ _ _ _ (by decide)]; exact hf); have hlO : jc_up O (8, t, (I (9, t, 0) 2).toNatClampNeg) 2 (some (6, d, 0)) (8, t, (I (9, t, 0) 2).toNatClampNeg) 1 = some (33, t, (I (9, t, 0) 2).toNatClampNeg) := (by rw [jc_up_k _ _ _ _ _ _ (by decide)]; exact hg.2); have hdJ : jw_d (jc_up (f_bg I t (I (9, t, 0) 2).toNatClampNeg) (9, t, 0) 2 (I (9, t, 0) 2 + 1)) t j := (by unfold jw_d at *; rw [jc_up_t _ _ _ _ _ _ _ _ (by decide)]; unfold f_bg jc_zr; rw [if_neg (by simp), jc_up_k _ _ _ _ _ _ (by decide), jc_up_q _ _ _ _ _ _ (by intro e; simp at e; exact hne e)]; exact hd); exact lp_M_callCode hfO hlO _ _ _ hdJ (by rw [jsub0 hpp, jNI hpp]; omega))
theorem ct_M_callCodeN {I : jc_I} {O : jc_O} {live : jc_L → Prop} {t j : Nat}  : jc_Ct y_M_callCode [.inr (some (4, 0, 0)), .inr (some (9, t, 0)), .inr (some (8, t, j)), .inr none] I O live (none, I, O, live, 0, 0) := by
  refine jc_Ct.of (by decide +kernel) (rfl) (Nat.le_of_ble_eq_true rfl) ?_
  refine jr_aload_n d_M_callCode_0 rfl rfl ?_
  refine jr_ifnonnull (tgt := 8) d_M_callCode_1 (by decide) (fun q1 c1 => by cases c1) (fun c1 => ?_)
  refine jr_null d_M_callCode_4 ?_
  refine jr_goto (tgt := 13) d_M_callCode_5 (by decide) ?_
  refine jr_astore d_M_callCode_13 (Nat.le_of_ble_eq_true rfl) ?_
  refine jr_aload d_M_callCode_15 rfl ?_
  refine jr_ifnonnull (tgt := 21) d_M_callCode_17 (by decide) (fun q17 c17 => by cases c17) (fun c17 => ?_)
  exact jr_retX (v := none) d_M_callCode_20 (by first | exact Nat.le_refl _ | exact Nat.zero_le _ | (dsimp only; omega)) (by first | exact Nat.le_refl _ | exact Nat.zero_le _ | (dsimp only; omega)) (by first | with_reducible rfl | (dsimp only; rfl; done) | (exfalso; grind)) (by first | with_reducible rfl | (dsimp only; rfl; done) | (exfalso; grind)) (by first | with_reducible rfl | (dsimp only; rfl; done) | (exfalso; grind)) (by first | with_reducible rfl | (dsimp only; rfl; done) | (exfalso; grind))
/-- the code of a frame -/
def cd (O : jc_O) (t j : Nat) : Nat := ((O (8, t, j) 2).map (fun q => q.2.1)).getD 0
/-- a thread's frames -/
def jw_T (I : jc_I) (O : jc_O) (t : Nat) : Prop := O (9, t, 0) 1 = some (34, t, 0) ∧ 0 ≤ I (9, t, 0) 2 ∧ I (9, t, 0) 2 ≤ 30 ∧ ∀ j : Nat, (j : Int) < (I (9, t, 0) 2).toInt → O (34, t, 0) j = some (8, t, j) ∧ jw_f O t j ∧ jw_d I t j ∧ O (8, t, j) 2 = some (6, cd O t j, 0) ∧ jw_in I (cd O t j)
def f_ho (I : jc_I) (t j : Nat) (x : Int32) : jc_I := jc_up (jc_up (jc_up I (8, t, j) 3 0) (32, t, j) 0 x) (8, t, j) 3 1
def m_tk (I : jc_I) (O : jc_O) (t j : Nat) (k : Int32) : Int32 := c_tk I (cd O t j) (I (8, t, j) 4) k (I (6, cd O t j, 0) 9).toNatClampNeg 0
def m_rs (O : jc_O) (t : Nat) (x k : Int32) : Nat → jc_I → jc_I
  | 0, J => m_end J t 2 x
  | m + 1, J => if 0 ≤ m_tk J O t m k then jc_up (f_ho J t m x) (8, t, m) 4 (m_tk J O t m k) else m_rs O t x k m (s_ef J t)
def m_kd (I : jc_I) (x : Int32) : Int32 := if 1 ≤ x ∧ x ≤ I (3, 0, 0) 2 then I (7, (x - 1).toNatClampNeg, 0) 1 else 6
def m_rse (I : jc_I) (O : jc_O) (t : Nat) (x : Int32) : jc_I := m_rs O t x (m_kd I x) (I (9, t, 0) 2).toNatClampNeg I
theorem s_ef_2 {J : jc_I} {t : Nat} (h : 1 ≤ J (9, t, 0) 2) : s_ef J t (9, t, 0) 2 = J (9, t, 0) 2 - 1 := by
  unfold s_ef
  rw [jc_up_s, if_neg (by grind)]
theorem jw_T.ef {J : jc_I} {O : jc_O} {t : Nat} (h : jw_T J O t) (h1 : 1 ≤ J (9, t, 0) 2) : jw_T (s_ef J t) O t := by
  obtain ⟨a1, a2, a3, a4⟩ := h
  unfold jw_T
  rw [s_ef_2 h1]
  refine ⟨a1, by grind, by grind, fun j hj => ?_⟩
  rw [jsub1 h1] at hj
  obtain ⟨b1, b2, b3, b4, b5⟩ := a4 j (by omega)
  refine ⟨b1, b2, ?_, b4, ?_⟩
  · unfold jw_d at *; rw [s_ef_t (by decide)]; exact b3
  · unfold jw_in at *; rw [s_ef_t (by decide)]; exact b5
theorem jw_T.top {J : jc_I} {O : jc_O} {t m : Nat} (h : jw_T J O t) (hm : (J (9, t, 0) 2).toInt = ((m + 1 : Nat) : Int)) : jw_top J O t m := by
  obtain ⟨a1, a2, a3, a4⟩ := h
  have h1 : 1 ≤ J (9, t, 0) 2 := by rw [jle, j1I]; omega
  refine ⟨a1, h1, a3, ?_, (a4 m (by omega)).1⟩
  have := jsubN h1
  omega
theorem lp_M_raise {O : jc_O} {live : jc_L → Prop} {t : Nat} {x k : Int32} {u : Option jc_V} (hM : jw_M O) : ∀ (m : Nat) (i : Int32) (u6 u7 u8 : Option jc_V) (J : jc_I), jw_H J O → jw_A J O → jw_T J O t → J (9, t, 0) 2 = i → i.toInt = (m : Int) → jc_R y_M_raise 30 [some (.inr (some (4, 0, 0))), some (.inr (some (9, t, 0))), some (.inl x), u, some (.inl k), some (.inl i), u6, u7, u8] [] J O live 0 0 (none, m_rs O t x k m J, O, live, 0, 0) := by
  intro m
  induction m with
  | zero =>
    intro i u6 u7 u8 J hH hA hT hl hm
    have ez : i ≤ 0 := by rw [jle, j0I]; omega
    refine jr_iload d_M_raise_30 rfl ?_
    refine jr_if_le (tgt := 109) d_M_raise_32 (by decide) (fun c32 => ?_) (fun c32 => ?_)
    · skip
      refine jr_aload_n d_M_raise_109 rfl rfl ?_
      refine jr_aload_n d_M_raise_110 rfl rfl ?_
      refine jr_iconst (v := 2) d_M_raise_111 (by decide) ?_
      refine jr_iload_n d_M_raise_112 rfl rfl ?_
      refine jv_V3v d_M_raise_113 l_M_228 k_M_end ⟨Nat.le_of_ble_eq_true rfl, Nat.le_of_ble_eq_true rfl⟩ rfl rfl (Nat.le_of_ble_eq_true rfl) (ct_M_end hM hH) (by first | decide | (dsimp only; omega) | (dsimp only; grind)) (by first | decide | (dsimp only; omega) | (dsimp only; grind)) ?_
      exact jr_retX (v := none) d_M_raise_116 (by first | exact Nat.le_refl _ | exact Nat.zero_le _ | (dsimp only; omega)) (by first | exact Nat.le_refl _ | exact Nat.zero_le _ | (dsimp only; omega)) (by first | with_reducible rfl | (dsimp only; rfl; done) | (exfalso; grind)) (by first | with_reducible rfl | (dsimp only; rfl; done) | (exfalso; grind)) (by first | with_reducible rfl | (dsimp only; rfl; done) | (exfalso; grind)) (by first | with_reducible rfl | (dsimp only; rfl; done) | (exfalso; grind))
    · skip
      exfalso; grind
  | succ m ih =>
    intro i u6 u7 u8 J hH hA hT hl hm
    have h1 : 1 ≤ J (9, t, 0) 2 := by rw [hl, jle, j1I]; omega
    have hm2 : (J (9, t, 0) 2).toInt = ((m + 1 : Nat) : Int) := by rw [hl]; exact hm
    obtain ⟨b1, b2, b3, b4, b5⟩ := hT.2.2.2 m (by rw [hl]; omega)
    have bA := hA.2.2.2 _ b5
    refine jr_iload d_M_raise_30 rfl ?_
    refine jr_if_le (tgt := 109) d_M_raise_32 (by decide) (fun c32 => ?_) (fun c32 => ?_)
    · skip
      exfalso; clear ih; grind
    · skip
      refine jr_aload_n d_M_raise_35 rfl rfl ?_
      refine jv_V0r d_M_raise_36 l_M_90 k_S_top ⟨Nat.le_of_ble_eq_true rfl, Nat.le_of_ble_eq_true rfl⟩ rfl rfl (Nat.le_of_ble_eq_true rfl) (ct_S_topF (hT.top hm2)) (by first | decide | (dsimp only; omega) | (dsimp only; clear ih; grind)) (by first | decide | (dsimp only; omega) | (dsimp only; clear ih; grind)) ?_
      first | rw [b4] | skip
      refine jr_astore d_M_raise_39 (Nat.le_of_ble_eq_true rfl) ?_
      refine jr_aload d_M_raise_41 rfl ?_
      refine jr_ifnonnull (tgt := 50) d_M_raise_43 (by decide) (fun q43 c43 => ?_) (fun c43 => by cases c43)
      refine jr_aload d_M_raise_50 rfl ?_
      refine jv_V0r d_M_raise_52 l_M_94 k_F_ownCode ⟨Nat.le_of_ble_eq_true rfl, Nat.le_of_ble_eq_true rfl⟩ rfl rfl (Nat.le_of_ble_eq_true rfl) (ct_F_ownCode) (by first | decide | (dsimp only; omega) | (dsimp only; clear ih; grind)) (by first | decide | (dsimp only; omega) | (dsimp only; clear ih; grind)) ?_
      first | rw [b4] | skip
      refine jr_astore d_M_raise_55 (Nat.le_of_ble_eq_true rfl) ?_
      refine jr_aload d_M_raise_57 rfl ?_
      refine jr_ifnonnull (tgt := 66) d_M_raise_59 (by decide) (fun q59 c59 => ?_) (fun c59 => by cases c59)
      refine jr_aload d_M_raise_66 rfl ?_
      refine jr_aload d_M_raise_68 rfl ?_
      refine jv_V0r d_M_raise_70 l_M_100 k_F_at ⟨Nat.le_of_ble_eq_true rfl, Nat.le_of_ble_eq_true rfl⟩ rfl rfl (Nat.le_of_ble_eq_true rfl) (ct_F_at) (by first | decide | (dsimp only; omega) | (dsimp only; clear ih; grind)) (by first | decide | (dsimp only; omega) | (dsimp only; clear ih; grind)) ?_
      refine jr_iload d_M_raise_73 rfl ?_
      refine jv_V2r d_M_raise_75 l_M_235 k_C_takerOf ⟨Nat.le_of_ble_eq_true rfl, Nat.le_of_ble_eq_true rfl⟩ rfl rfl (Nat.le_of_ble_eq_true rfl) (show jc_Ct y_C_takerOf _ _ _ _ (some (.inl (m_tk J O t m k)), _, _, _, 0, 0) from ct_C_takerOf bA.2.1 bA.2.2.1 bA.2.2.2.1) (by first | decide | (dsimp only; omega) | (dsimp only; clear ih; grind)) (by first | decide | (dsimp only; omega) | (dsimp only; clear ih; grind)) ?_
      refine jr_istore d_M_raise_78 (Nat.le_of_ble_eq_true rfl) ?_
      refine jr_iload d_M_raise_80 rfl ?_
      refine jr_if_lt (tgt := 99) d_M_raise_82 (by decide) (fun c82 => ?_) (fun c82 => ?_)
      · skip
        refine jr_aload_n d_M_raise_99 rfl rfl ?_
        refine jv_V0v d_M_raise_100 l_M_225 k_S_endFrame ⟨Nat.le_of_ble_eq_true rfl, Nat.le_of_ble_eq_true rfl⟩ rfl rfl (Nat.le_of_ble_eq_true rfl) (show jc_Ct y_S_endFrame _ _ _ _ (none, s_ef _ _, _, _, 0, 0) from ct_S_endFrame) (by first | decide | (dsimp only; omega) | (dsimp only; clear ih; grind)) (by first | decide | (dsimp only; omega) | (dsimp only; clear ih; grind)) ?_
        refine jr_iinc d_M_raise_103 rfl jincm1 ?_
        refine jr_goto (tgt := 30) d_M_raise_106 (by decide) ?_
        exact (by have e := ih (i - 1) (some (.inr (some (8, t, m)))) (some (.inr (some (6, cd O t m, 0)))) (some (.inl (m_tk J O t m k))) (s_ef J t) (hH.to (s_ef_t (by decide))) (jk_ef.A (by decide) (by decide) hA) (hT.ef h1) (by rw [s_ef_2 h1, hl]) (by rw [jsub1 (by rw [← hl]; exact h1)]; omega); rw [m_rs, if_neg (by clear ih e; grind)]; exact e)
      · skip
        refine jr_aload d_M_raise_85 rfl ?_
        refine jr_iload_n d_M_raise_87 rfl rfl ?_
        refine jv_V1v d_M_raise_88 l_M_239 k_F_holdOnly ⟨Nat.le_of_ble_eq_true rfl, Nat.le_of_ble_eq_true rfl⟩ rfl rfl (Nat.le_of_ble_eq_true rfl) (show jc_Ct y_F_holdOnly _ _ _ _ (none, f_ho _ _ _ _, _, _, 0, 0) from ct_F_holdOnly b2.1) (by first | decide | (dsimp only; omega) | (dsimp only; clear ih; grind)) (by first | decide | (dsimp only; omega) | (dsimp only; clear ih; grind)) ?_
        refine jr_aload d_M_raise_91 rfl ?_
        refine jr_iload d_M_raise_93 rfl ?_
        refine jv_V1v d_M_raise_95 l_M_159 k_F_goTo ⟨Nat.le_of_ble_eq_true rfl, Nat.le_of_ble_eq_true rfl⟩ rfl rfl (Nat.le_of_ble_eq_true rfl) (ct_F_goTo) (by first | decide | (dsimp only; omega) | (dsimp only; clear ih; grind)) (by first | decide | (dsimp only; omega) | (dsimp only; clear ih; grind)) ?_
        exact jr_retX (v := none) d_M_raise_98 (by first | exact Nat.le_refl _ | exact Nat.zero_le _ | (dsimp only; omega)) (by first | exact Nat.le_refl _ | exact Nat.zero_le _ | (dsimp only; omega)) (by first | with_reducible rfl | (dsimp only; (rw [m_rs, if_pos (by clear ih; grind)]); done) | (exfalso; clear ih; grind)) (by first | with_reducible rfl | (dsimp only; (rw [m_rs, if_pos (by clear ih; grind)]); done) | (exfalso; clear ih; grind)) (by first | with_reducible rfl | (dsimp only; (rw [m_rs, if_pos (by clear ih; grind)]); done) | (exfalso; clear ih; grind)) (by first | with_reducible rfl | (dsimp only; (rw [m_rs, if_pos (by clear ih; grind)]); done) | (exfalso; clear ih; grind))
theorem ct_M_raise {I : jc_I} {O : jc_O} {live : jc_L → Prop} {t : Nat} {x : Int32} (hM : jw_M O) (hH : jw_H I O) (hA : jw_A I O) (hT : jw_T I O t) : jc_Ct y_M_raise [.inr (some (4, 0, 0)), .inr (some (9, t, 0)), .inl x] I O live (none, m_rse I O t x, O, live, 0, 0) := by
  obtain ⟨m0, m1, m2, m3⟩ := id hM
  refine jc_Ct.of (by decide +kernel) (rfl) (Nat.le_of_ble_eq_true rfl) ?_
  refine jr_aload_n d_M_raise_0 rfl rfl ?_
  refine jr_getr d_M_raise_1 f_M_25 rfl rfl ?_
  first | rw [m0] | rw [m1] | rw [m2] | rw [m3] | skip
  refine jr_iload_n d_M_raise_4 rfl rfl ?_
  refine jv_V1r d_M_raise_5 l_M_110 k_H_find ⟨Nat.le_of_ble_eq_true rfl, Nat.le_of_ble_eq_true rfl⟩ rfl rfl (Nat.le_of_ble_eq_true rfl) (ct_H_findT hH) (by first | decide | (dsimp only; omega) | (dsimp only; grind)) (by first | decide | (dsimp only; omega) | (dsimp only; grind)) ?_
  first | rw [m0] | rw [m1] | rw [m2] | rw [m3] | skip
  refine jr_astore_n d_M_raise_8 rfl (Nat.le_of_ble_eq_true rfl) ?_
  refine jr_aload_n d_M_raise_9 rfl rfl ?_
  refine jr_ifnonnull (tgt := 18) d_M_raise_10 (by decide) (fun q10 c10 => ?_) (fun c10 => ?_)
  · skip
    obtain ⟨hx, hq⟩ := h_fd_some c10; rw [c10, hq]
    refine jr_aload_n d_M_raise_18 rfl rfl ?_
    refine jv_V0r d_M_raise_19 l_M_203 k_T_kind ⟨Nat.le_of_ble_eq_true rfl, Nat.le_of_ble_eq_true rfl⟩ rfl rfl (Nat.le_of_ble_eq_true rfl) (ct_T_kind) (by first | decide | (dsimp only; omega) | (dsimp only; grind)) (by first | decide | (dsimp only; omega) | (dsimp only; grind)) ?_
    refine jr_istore d_M_raise_22 (Nat.le_of_ble_eq_true rfl) ?_
    refine jr_aload_n d_M_raise_24 rfl rfl ?_
    refine jv_V0r d_M_raise_25 l_M_232 k_S_frameCount ⟨Nat.le_of_ble_eq_true rfl, Nat.le_of_ble_eq_true rfl⟩ rfl rfl (Nat.le_of_ble_eq_true rfl) (ct_S_frameCount) (by first | decide | (dsimp only; omega) | (dsimp only; grind)) (by first | decide | (dsimp only; omega) | (dsimp only; grind)) ?_
    refine jr_istore d_M_raise_28 (Nat.le_of_ble_eq_true rfl) ?_
    exact (by unfold m_rse m_kd; rw [if_pos hx]; exact lp_M_raise hM _ _ none none none I hH hA hT rfl (by rw [jNI hT.2.1]))
  · skip
    have hx := h_fd_none c10
    refine jr_bipush (v := 6) d_M_raise_13 (by decide) ?_
    refine jr_goto (tgt := 22) d_M_raise_15 (by decide) ?_
    refine jr_istore d_M_raise_22 (Nat.le_of_ble_eq_true rfl) ?_
    refine jr_aload_n d_M_raise_24 rfl rfl ?_
    refine jv_V0r d_M_raise_25 l_M_232 k_S_frameCount ⟨Nat.le_of_ble_eq_true rfl, Nat.le_of_ble_eq_true rfl⟩ rfl rfl (Nat.le_of_ble_eq_true rfl) (ct_S_frameCount) (by first | decide | (dsimp only; omega) | (dsimp only; grind)) (by first | decide | (dsimp only; omega) | (dsimp only; grind)) ?_
    refine jr_istore d_M_raise_28 (Nat.le_of_ble_eq_true rfl) ?_
    exact (by unfold m_rse m_kd; rw [if_neg hx]; exact lp_M_raise hM _ _ none none none I hH hA hT rfl (by rw [jNI hT.2.1]))
