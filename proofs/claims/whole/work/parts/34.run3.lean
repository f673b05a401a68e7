theorem h_mk_live {I : jc_I} {O : jc_O} {live : jc_L → Prop} {x : Int32} : ∀ q, live q → (h_mk I O live x).2.2.2.1 q := by
  intro q hq
  unfold h_mk
  split
  · exact hq
  · split
    · exact Or.inr (Or.inr hq)
    · exact hq
theorem h_mk_O {I : jc_I} {O : jc_O} {live : jc_L → Prop} {x : Int32} {a : Nat} {u : Nat × Nat} {k : Nat} (h1 : a ≠ 7) (h2 : a ≠ 29) (h3 : a ≠ 30) : (h_mk I O live x).2.2.1 (a, u) k = O (a, u) k := by
  unfold h_mk
  split
  · rfl
  · split
    · dsimp only
      rw [jc_up_t _ _ _ _ _ _ _ _ h3, jc_up_t _ _ _ _ _ _ _ _ h1, jc_cl_t _ _ _ _ _ _ _ h2, jc_cl_t _ _ _ _ _ _ _ h1]
    · rfl
theorem h_mk_I {I : jc_I} {O : jc_O} {live : jc_L → Prop} {x : Int32} {a : Nat} {u : Nat × Nat} {k : Nat} (h1 : a ≠ 7) (h2 : a ≠ 29) (h3 : a ≠ 3) : (h_mk I O live x).2.1 (a, u) k = I (a, u) k := by
  unfold h_mk
  split
  · rfl
  · split
    · dsimp only
      rw [jc_up_t _ _ _ _ _ _ _ _ h3, jc_up_t _ _ _ _ _ _ _ _ h3, t_bg_t _ _ _ _ _ _ h1 h2, jc_cl_t _ _ _ _ _ _ _ h2, jc_cl_t _ _ _ _ _ _ _ h1]
    · dsimp only
      rw [jc_up_t _ _ _ _ _ _ _ _ h3, jc_up_t _ _ _ _ _ _ _ _ h3, t_bg_t _ _ _ _ _ _ h1 h2]
def m_mv (I : jc_I) (O : jc_O) (live : jc_L → Prop) (t j c : Nat) (op a : Int32) : jc_S :=
  if op = 0 then (f_psh I t j a, O, live, 0, 0) else if op = 1 then (f_psh I t j 0, O, live, 0, 0) else if op = 2 then (f_pop I t j, O, live, 0, 0) else if op = 3 then (f_psh I t j (f_pk I t j 0), O, live, 0, 0)
  else if op = 9 then (f_psh I t j (f_la I t j c a), O, live, 0, 0) else if op = 10 then (f_sl (f_pop I t j) t j a (f_tp I t j), O, live, 0, 0)
  else if op = 14 then (f_psh (h_mk I O live a).2.1 t j (h_mk I O live a).1, (h_mk I O live a).2.2.1, (h_mk I O live a).2.2.2.1, (h_mk I O live a).2.2.2.2.1, (h_mk I O live a).2.2.2.2.2)
  else if op = 25 then (f_psh I t j (h_ga I a), O, live, 0, 0) else if op = 26 then (h_sg (f_pop I t j) a (f_tp I t j), O, live, 0, 0) else (I, O, live, 0, 0)
theorem ct_M_moveValue {I : jc_I} {O : jc_O} {live : jc_L → Prop} {t j c : Nat} {op a : Int32} (hM : jw_M O) (hH : jw_H I O) (hf : jw_f O t j) (hd : jw_d I t j) (hc : O (8, t, j) 2 = some (6, c, 0)) (hn : jw_n I c) (hN : jw_N I O live) : jc_Ct y_M_moveValue [.inr (some (4, 0, 0)), .inr (some (8, t, j)), .inl op, .inl a] I O live (none, (m_mv I O live t j c op a).1, (m_mv I O live t j c op a).2.1, (m_mv I O live t j c op a).2.2.1, (m_mv I O live t j c op a).2.2.2.1, (m_mv I O live t j c op a).2.2.2.2) := by
  obtain ⟨m0, m1, m2, m3⟩ := id hM
  refine jc_Ct.of (by decide +kernel) (rfl) (Nat.le_of_ble_eq_true rfl) ?_
  refine jr_iload_n d_M_moveValue_0 rfl rfl ?_
  refine jr_name (fun x1 e1 => ?_)
  by_cases g1_0 : x1 = 0
  · refine jr_tableIn (tgt := 124) d_M_moveValue_1 (by rcases g1_0 with rfl <;> decide) (by rcases g1_0 with rfl <;> decide) (by rcases g1_0 with rfl <;> rfl) (by decide) ?_
    refine jr_aload_n d_M_moveValue_124 rfl rfl ?_
    refine jr_iload_n d_M_moveValue_125 rfl rfl ?_
    refine jv_V1v d_M_moveValue_126 l_M_177 k_F_push ⟨Nat.le_of_ble_eq_true rfl, Nat.le_of_ble_eq_true rfl⟩ rfl rfl (Nat.le_of_ble_eq_true rfl) (show jc_Ct y_F_push _ _ _ _ (none, f_psh _ _ _ _, _, _, 0, 0) from ct_F_push hf.1) (by first | decide | (dsimp only; omega) | (dsimp only; grind) | (dsimp only; subst e1; unfold m_mv; (repeat (first | rw [if_pos (by grind)] | rw [if_neg (by grind)])); dsimp only; omega)) (by first | decide | (dsimp only; omega) | (dsimp only; grind) | (dsimp only; subst e1; unfold m_mv; (repeat (first | rw [if_pos (by grind)] | rw [if_neg (by grind)])); dsimp only; omega)) ?_
    refine jr_goto (tgt := 229) d_M_moveValue_129 (by decide) ?_
    exact jr_retX (v := none) d_M_moveValue_229 (by first | exact Nat.le_refl _ | exact Nat.zero_le _ | (dsimp only; omega) | (dsimp only; subst e1; unfold m_mv; (repeat (first | rw [if_pos (by grind)] | rw [if_neg (by grind)])); dsimp only; omega)) (by first | exact Nat.le_refl _ | exact Nat.zero_le _ | (dsimp only; omega) | (dsimp only; subst e1; unfold m_mv; (repeat (first | rw [if_pos (by grind)] | rw [if_neg (by grind)])); dsimp only; omega)) (by first | with_reducible rfl | (dsimp only; (subst e1; unfold m_mv; (repeat (first | rw [if_pos (by grind)] | rw [if_neg (by grind)]))); done) | (exfalso; grind)) (by first | with_reducible rfl | (dsimp only; (subst e1; unfold m_mv; (repeat (first | rw [if_pos (by grind)] | rw [if_neg (by grind)]))); done) | (exfalso; grind)) (by first | with_reducible rfl | (dsimp only; (subst e1; unfold m_mv; (repeat (first | rw [if_pos (by grind)] | rw [if_neg (by grind)]))); done) | (exfalso; grind)) (by first | with_reducible rfl | (dsimp only; (subst e1; unfold m_mv; (repeat (first | rw [if_pos (by grind)] | rw [if_neg (by grind)]))); done) | (exfalso; grind))
  · skip
    by_cases g1_1 : x1 = 1
    · refine jr_tableIn (tgt := 132) d_M_moveValue_1 (by rcases g1_1 with rfl <;> decide) (by rcases g1_1 with rfl <;> decide) (by rcases g1_1 with rfl <;> rfl) (by decide) ?_
      refine jr_aload_n d_M_moveValue_132 rfl rfl ?_
      refine jr_iconst (v := 0) d_M_moveValue_133 (by decide) ?_
      refine jv_V1v d_M_moveValue_134 l_M_177 k_F_push ⟨Nat.le_of_ble_eq_true rfl, Nat.le_of_ble_eq_true rfl⟩ rfl rfl (Nat.le_of_ble_eq_true rfl) (show jc_Ct y_F_push _ _ _ _ (none, f_psh _ _ _ _, _, _, 0, 0) from ct_F_push hf.1) (by first | decide | (dsimp only; omega) | (dsimp only; grind) | (dsimp only; subst e1; unfold m_mv; (repeat (first | rw [if_pos (by grind)] | rw [if_neg (by grind)])); dsimp only; omega)) (by first | decide | (dsimp only; omega) | (dsimp only; grind) | (dsimp only; subst e1; unfold m_mv; (repeat (first | rw [if_pos (by grind)] | rw [if_neg (by grind)])); dsimp only; omega)) ?_
      refine jr_goto (tgt := 229) d_M_moveValue_137 (by decide) ?_
      exact jr_retX (v := none) d_M_moveValue_229 (by first | exact Nat.le_refl _ | exact Nat.zero_le _ | (dsimp only; omega) | (dsimp only; subst e1; unfold m_mv; (repeat (first | rw [if_pos (by grind)] | rw [if_neg (by grind)])); dsimp only; omega)) (by first | exact Nat.le_refl _ | exact Nat.zero_le _ | (dsimp only; omega) | (dsimp only; subst e1; unfold m_mv; (repeat (first | rw [if_pos (by grind)] | rw [if_neg (by grind)])); dsimp only; omega)) (by first | with_reducible rfl | (dsimp only; (subst e1; unfold m_mv; (repeat (first | rw [if_pos (by grind)] | rw [if_neg (by grind)]))); done) | (exfalso; grind)) (by first | with_reducible rfl | (dsimp only; (subst e1; unfold m_mv; (repeat (first | rw [if_pos (by grind)] | rw [if_neg (by grind)]))); done) | (exfalso; grind)) (by first | with_reducible rfl | (dsimp only; (subst e1; unfold m_mv; (repeat (first | rw [if_pos (by grind)] | rw [if_neg (by grind)]))); done) | (exfalso; grind)) (by first | with_reducible rfl | (dsimp only; (subst e1; unfold m_mv; (repeat (first | rw [if_pos (by grind)] | rw [if_neg (by grind)]))); done) | (exfalso; grind))
    · skip
      by_cases g1_2 : x1 = 2
      · refine jr_tableIn (tgt := 140) d_M_moveValue_1 (by rcases g1_2 with rfl <;> decide) (by rcases g1_2 with rfl <;> decide) (by rcases g1_2 with rfl <;> rfl) (by decide) ?_
        refine jr_aload_n d_M_moveValue_140 rfl rfl ?_
        refine jv_V0r d_M_moveValue_141 l_M_162 k_F_pop ⟨Nat.le_of_ble_eq_true rfl, Nat.le_of_ble_eq_true rfl⟩ rfl rfl (Nat.le_of_ble_eq_true rfl) (show jc_Ct y_F_pop _ _ _ _ (some (.inl (f_tp _ _ _)), f_pop _ _ _, _, _, 0, 0) from ct_F_pop hf.1 hd.2) (by first | decide | (dsimp only; omega) | (dsimp only; grind) | (dsimp only; subst e1; unfold m_mv; (repeat (first | rw [if_pos (by grind)] | rw [if_neg (by grind)])); dsimp only; omega)) (by first | decide | (dsimp only; omega) | (dsimp only; grind) | (dsimp only; subst e1; unfold m_mv; (repeat (first | rw [if_pos (by grind)] | rw [if_neg (by grind)])); dsimp only; omega)) ?_
        refine jr_pop d_M_moveValue_144 ?_
        refine jr_goto (tgt := 229) d_M_moveValue_145 (by decide) ?_
        exact jr_retX (v := none) d_M_moveValue_229 (by first | exact Nat.le_refl _ | exact Nat.zero_le _ | (dsimp only; omega) | (dsimp only; subst e1; unfold m_mv; (repeat (first | rw [if_pos (by grind)] | rw [if_neg (by grind)])); dsimp only; omega)) (by first | exact Nat.le_refl _ | exact Nat.zero_le _ | (dsimp only; omega) | (dsimp only; subst e1; unfold m_mv; (repeat (first | rw [if_pos (by grind)] | rw [if_neg (by grind)])); dsimp only; omega)) (by first | with_reducible rfl | (dsimp only; (subst e1; unfold m_mv; (repeat (first | rw [if_pos (by grind)] | rw [if_neg (by grind)]))); done) | (exfalso; grind)) (by first | with_reducible rfl | (dsimp only; (subst e1; unfold m_mv; (repeat (first | rw [if_pos (by grind)] | rw [if_neg (by grind)]))); done) | (exfalso; grind)) (by first | with_reducible rfl | (dsimp only; (subst e1; unfold m_mv; (repeat (first | rw [if_pos (by grind)] | rw [if_neg (by grind)]))); done) | (exfalso; grind)) (by first | with_reducible rfl | (dsimp only; (subst e1; unfold m_mv; (repeat (first | rw [if_pos (by grind)] | rw [if_neg (by grind)]))); done) | (exfalso; grind))
      · skip
        by_cases g1_3 : x1 = 3
        · refine jr_tableIn (tgt := 148) d_M_moveValue_1 (by rcases g1_3 with rfl <;> decide) (by rcases g1_3 with rfl <;> decide) (by rcases g1_3 with rfl <;> rfl) (by decide) ?_
          refine jr_aload_n d_M_moveValue_148 rfl rfl ?_
          refine jr_aload_n d_M_moveValue_149 rfl rfl ?_
          refine jr_iconst (v := 0) d_M_moveValue_150 (by decide) ?_
          refine jv_V1r d_M_moveValue_151 l_M_107 k_F_peek ⟨Nat.le_of_ble_eq_true rfl, Nat.le_of_ble_eq_true rfl⟩ rfl rfl (Nat.le_of_ble_eq_true rfl) (show jc_Ct y_F_peek _ _ _ _ (some (.inl (f_pk _ _ _ _)), _, _, _, 0, 0) from ct_F_peek hf.1 hd.2) (by first | decide | (dsimp only; omega) | (dsimp only; grind) | (dsimp only; subst e1; unfold m_mv; (repeat (first | rw [if_pos (by grind)] | rw [if_neg (by grind)])); dsimp only; omega)) (by first | decide | (dsimp only; omega) | (dsimp only; grind) | (dsimp only; subst e1; unfold m_mv; (repeat (first | rw [if_pos (by grind)] | rw [if_neg (by grind)])); dsimp only; omega)) ?_
          refine jv_V1v d_M_moveValue_154 l_M_177 k_F_push ⟨Nat.le_of_ble_eq_true rfl, Nat.le_of_ble_eq_true rfl⟩ rfl rfl (Nat.le_of_ble_eq_true rfl) (show jc_Ct y_F_push _ _ _ _ (none, f_psh _ _ _ _, _, _, 0, 0) from ct_F_push hf.1) (by first | decide | (dsimp only; omega) | (dsimp only; grind) | (dsimp only; subst e1; unfold m_mv; (repeat (first | rw [if_pos (by grind)] | rw [if_neg (by grind)])); dsimp only; omega)) (by first | decide | (dsimp only; omega) | (dsimp only; grind) | (dsimp only; subst e1; unfold m_mv; (repeat (first | rw [if_pos (by grind)] | rw [if_neg (by grind)])); dsimp only; omega)) ?_
          refine jr_goto (tgt := 229) d_M_moveValue_157 (by decide) ?_
          exact jr_retX (v := none) d_M_moveValue_229 (by first | exact Nat.le_refl _ | exact Nat.zero_le _ | (dsimp only; omega) | (dsimp only; subst e1; unfold m_mv; (repeat (first | rw [if_pos (by grind)] | rw [if_neg (by grind)])); dsimp only; omega)) (by first | exact Nat.le_refl _ | exact Nat.zero_le _ | (dsimp only; omega) | (dsimp only; subst e1; unfold m_mv; (repeat (first | rw [if_pos (by grind)] | rw [if_neg (by grind)])); dsimp only; omega)) (by first | with_reducible rfl | (dsimp only; (subst e1; unfold m_mv; (repeat (first | rw [if_pos (by grind)] | rw [if_neg (by grind)]))); done) | (exfalso; grind)) (by first | with_reducible rfl | (dsimp only; (subst e1; unfold m_mv; (repeat (first | rw [if_pos (by grind)] | rw [if_neg (by grind)]))); done) | (exfalso; grind)) (by first | with_reducible rfl | (dsimp only; (subst e1; unfold m_mv; (repeat (first | rw [if_pos (by grind)] | rw [if_neg (by grind)]))); done) | (exfalso; grind)) (by first | with_reducible rfl | (dsimp only; (subst e1; unfold m_mv; (repeat (first | rw [if_pos (by grind)] | rw [if_neg (by grind)]))); done) | (exfalso; grind))
        · skip
          by_cases g1_9 : x1 = 9
          · refine jr_tableIn (tgt := 160) d_M_moveValue_1 (by rcases g1_9 with rfl <;> decide) (by rcases g1_9 with rfl <;> decide) (by rcases g1_9 with rfl <;> rfl) (by decide) ?_
            refine jr_aload_n d_M_moveValue_160 rfl rfl ?_
            refine jr_aload_n d_M_moveValue_161 rfl rfl ?_
            refine jr_iload_n d_M_moveValue_162 rfl rfl ?_
            refine jv_V1r d_M_moveValue_163 l_M_190 k_F_localAt ⟨Nat.le_of_ble_eq_true rfl, Nat.le_of_ble_eq_true rfl⟩ rfl rfl (Nat.le_of_ble_eq_true rfl) (show jc_Ct y_F_localAt _ _ _ _ (some (.inl (f_la _ _ _ _ _)), _, _, _, 0, 0) from ct_F_localAt hf.2 hc hn.2.1) (by first | decide | (dsimp only; omega) | (dsimp only; grind) | (dsimp only; subst e1; unfold m_mv; (repeat (first | rw [if_pos (by grind)] | rw [if_neg (by grind)])); dsimp only; omega)) (by first | decide | (dsimp only; omega) | (dsimp only; grind) | (dsimp only; subst e1; unfold m_mv; (repeat (first | rw [if_pos (by grind)] | rw [if_neg (by grind)])); dsimp only; omega)) ?_
            refine jv_V1v d_M_moveValue_166 l_M_177 k_F_push ⟨Nat.le_of_ble_eq_true rfl, Nat.le_of_ble_eq_true rfl⟩ rfl rfl (Nat.le_of_ble_eq_true rfl) (show jc_Ct y_F_push _ _ _ _ (none, f_psh _ _ _ _, _, _, 0, 0) from ct_F_push hf.1) (by first | decide | (dsimp only; omega) | (dsimp only; grind) | (dsimp only; subst e1; unfold m_mv; (repeat (first | rw [if_pos (by grind)] | rw [if_neg (by grind)])); dsimp only; omega)) (by first | decide | (dsimp only; omega) | (dsimp only; grind) | (dsimp only; subst e1; unfold m_mv; (repeat (first | rw [if_pos (by grind)] | rw [if_neg (by grind)])); dsimp only; omega)) ?_
            refine jr_goto (tgt := 229) d_M_moveValue_169 (by decide) ?_
            exact jr_retX (v := none) d_M_moveValue_229 (by first | exact Nat.le_refl _ | exact Nat.zero_le _ | (dsimp only; omega) | (dsimp only; subst e1; unfold m_mv; (repeat (first | rw [if_pos (by grind)] | rw [if_neg (by grind)])); dsimp only; omega)) (by first | exact Nat.le_refl _ | exact Nat.zero_le _ | (dsimp only; omega) | (dsimp only; subst e1; unfold m_mv; (repeat (first | rw [if_pos (by grind)] | rw [if_neg (by grind)])); dsimp only; omega)) (by first | with_reducible rfl | (dsimp only; (subst e1; unfold m_mv; (repeat (first | rw [if_pos (by grind)] | rw [if_neg (by grind)]))); done) | (exfalso; grind)) (by first | with_reducible rfl | (dsimp only; (subst e1; unfold m_mv; (repeat (first | rw [if_pos (by grind)] | rw [if_neg (by grind)]))); done) | (exfalso; grind)) (by first | with_reducible rfl | (dsimp only; (subst e1; unfold m_mv; (repeat (first | rw [if_pos (by grind)] | rw [if_neg (by grind)]))); done) | (exfalso; grind)) (by first | with_reducible rfl | (dsimp only; (subst e1; unfold m_mv; (repeat (first | rw [if_pos (by grind)] | rw [if_neg (by grind)]))); done) | (exfalso; grind))
          · skip
            by_cases g1_10 : x1 = 10
            · refine jr_tableIn (tgt := 172) d_M_moveValue_1 (by rcases g1_10 with rfl <;> decide) (by rcases g1_10 with rfl <;> decide) (by rcases g1_10 with rfl <;> rfl) (by decide) ?_
              refine jr_aload_n d_M_moveValue_172 rfl rfl ?_
              refine jr_iload_n d_M_moveValue_173 rfl rfl ?_
              refine jr_aload_n d_M_moveValue_174 rfl rfl ?_
              refine jv_V0r d_M_moveValue_175 l_M_162 k_F_pop ⟨Nat.le_of_ble_eq_true rfl, Nat.le_of_ble_eq_true rfl⟩ rfl rfl (Nat.le_of_ble_eq_true rfl) (show jc_Ct y_F_pop _ _ _ _ (some (.inl (f_tp _ _ _)), f_pop _ _ _, _, _, 0, 0) from ct_F_pop hf.1 hd.2) (by first | decide | (dsimp only; omega) | (dsimp only; grind) | (dsimp only; subst e1; unfold m_mv; (repeat (first | rw [if_pos (by grind)] | rw [if_neg (by grind)])); dsimp only; omega)) (by first | decide | (dsimp only; omega) | (dsimp only; grind) | (dsimp only; subst e1; unfold m_mv; (repeat (first | rw [if_pos (by grind)] | rw [if_neg (by grind)])); dsimp only; omega)) ?_
              refine jv_V2v d_M_moveValue_178 l_M_193 k_F_setLocal ⟨Nat.le_of_ble_eq_true rfl, Nat.le_of_ble_eq_true rfl⟩ rfl rfl (Nat.le_of_ble_eq_true rfl) (show jc_Ct y_F_setLocal _ _ _ _ (none, f_sl _ _ _ _ _, _, _, 0, 0) from ct_F_setLocal hf.2) (by first | decide | (dsimp only; omega) | (dsimp only; grind) | (dsimp only; subst e1; unfold m_mv; (repeat (first | rw [if_pos (by grind)] | rw [if_neg (by grind)])); dsimp only; omega)) (by first | decide | (dsimp only; omega) | (dsimp only; grind) | (dsimp only; subst e1; unfold m_mv; (repeat (first | rw [if_pos (by grind)] | rw [if_neg (by grind)])); dsimp only; omega)) ?_
              refine jr_goto (tgt := 229) d_M_moveValue_181 (by decide) ?_
              exact jr_retX (v := none) d_M_moveValue_229 (by first | exact Nat.le_refl _ | exact Nat.zero_le _ | (dsimp only; omega) | (dsimp only; subst e1; unfold m_mv; (repeat (first | rw [if_pos (by grind)] | rw [if_neg (by grind)])); dsimp only; omega)) (by first | exact Nat.le_refl _ | exact Nat.zero_le _ | (dsimp only; omega) | (dsimp only; subst e1; unfold m_mv; (repeat (first | rw [if_pos (by grind)] | rw [if_neg (by grind)])); dsimp only; omega)) (by first | with_reducible rfl | (dsimp only; (subst e1; unfold m_mv; (repeat (first | rw [if_pos (by grind)] | rw [if_neg (by grind)]))); done) | (exfalso; grind)) (by first | with_reducible rfl | (dsimp only; (subst e1; unfold m_mv; (repeat (first | rw [if_pos (by grind)] | rw [if_neg (by grind)]))); done) | (exfalso; grind)) (by first | with_reducible rfl | (dsimp only; (subst e1; unfold m_mv; (repeat (first | rw [if_pos (by grind)] | rw [if_neg (by grind)]))); done) | (exfalso; grind)) (by first | with_reducible rfl | (dsimp only; (subst e1; unfold m_mv; (repeat (first | rw [if_pos (by grind)] | rw [if_neg (by grind)]))); done) | (exfalso; grind))
            · skip
              by_cases g1_14 : x1 = 14
              · refine jr_tableIn (tgt := 184) d_M_moveValue_1 (by rcases g1_14 with rfl <;> decide) (by rcases g1_14 with rfl <;> decide) (by rcases g1_14 with rfl <;> rfl) (by decide) ?_
                refine jr_aload_n d_M_moveValue_184 rfl rfl ?_
                refine jr_aload_n d_M_moveValue_185 rfl rfl ?_
                refine jr_getr d_M_moveValue_186 f_M_25 rfl rfl ?_
                first | rw [m0] | rw [m1] | rw [m2] | rw [m3] | skip
                refine jr_iload_n d_M_moveValue_189 rfl rfl ?_
                refine jv_V1rA d_M_moveValue_190 l_M_139 k_H_make ⟨Nat.le_of_ble_eq_true rfl, Nat.le_of_ble_eq_true rfl⟩ rfl rfl (Nat.le_of_ble_eq_true rfl) (ct_H_make hN) (fun q9 h9 => h_mk_live q9 h9) (by first | decide | (dsimp only; omega) | (dsimp only; grind) | (dsimp only; subst e1; unfold m_mv; (repeat (first | rw [if_pos (by grind)] | rw [if_neg (by grind)])); dsimp only; omega)) (by first | decide | (dsimp only; omega) | (dsimp only; grind) | (dsimp only; subst e1; unfold m_mv; (repeat (first | rw [if_pos (by grind)] | rw [if_neg (by grind)])); dsimp only; omega)) ?_
                refine jv_V1v d_M_moveValue_193 l_M_177 k_F_push ⟨Nat.le_of_ble_eq_true rfl, Nat.le_of_ble_eq_true rfl⟩ rfl rfl (Nat.le_of_ble_eq_true rfl) (show jc_Ct y_F_push _ _ _ _ (none, f_psh _ _ _ _, _, _, 0, 0) from ct_F_push (by rw [h_mk_O (by decide) (by decide) (by decide)]; exact hf.1)) (by first | decide | (dsimp only; omega) | (dsimp only; grind) | (dsimp only; subst e1; unfold m_mv; (repeat (first | rw [if_pos (by grind)] | rw [if_neg (by grind)])); dsimp only; omega)) (by first | decide | (dsimp only; omega) | (dsimp only; grind) | (dsimp only; subst e1; unfold m_mv; (repeat (first | rw [if_pos (by grind)] | rw [if_neg (by grind)])); dsimp only; omega)) ?_
                refine jr_goto (tgt := 229) d_M_moveValue_196 (by decide) ?_
                exact jr_retX (v := none) d_M_moveValue_229 (by first | exact Nat.le_refl _ | exact Nat.zero_le _ | (dsimp only; omega) | (dsimp only; subst e1; unfold m_mv; (repeat (first | rw [if_pos (by grind)] | rw [if_neg (by grind)])); dsimp only; omega)) (by first | exact Nat.le_refl _ | exact Nat.zero_le _ | (dsimp only; omega) | (dsimp only; subst e1; unfold m_mv; (repeat (first | rw [if_pos (by grind)] | rw [if_neg (by grind)])); dsimp only; omega)) (by first | with_reducible rfl | (dsimp only; (subst e1; unfold m_mv; (repeat (first | rw [if_pos (by grind)] | rw [if_neg (by grind)]))); done) | (exfalso; grind)) (by first | with_reducible rfl | (dsimp only; (subst e1; unfold m_mv; (repeat (first | rw [if_pos (by grind)] | rw [if_neg (by grind)]))); done) | (exfalso; grind)) (by first | with_reducible rfl | (dsimp only; (subst e1; unfold m_mv; (repeat (first | rw [if_pos (by grind)] | rw [if_neg (by grind)]))); done) | (exfalso; grind)) (by first | with_reducible rfl | (dsimp only; (subst e1; unfold m_mv; (repeat (first | rw [if_pos (by grind)] | rw [if_neg (by grind)]))); done) | (exfalso; grind))
              · skip
                by_cases g1_25 : x1 = 25
                · refine jr_tableIn (tgt := 199) d_M_moveValue_1 (by rcases g1_25 with rfl <;> decide) (by rcases g1_25 with rfl <;> decide) (by rcases g1_25 with rfl <;> rfl) (by decide) ?_
                  refine jr_aload_n d_M_moveValue_199 rfl rfl ?_
                  refine jr_aload_n d_M_moveValue_200 rfl rfl ?_
                  refine jr_getr d_M_moveValue_201 f_M_25 rfl rfl ?_
                  first | rw [m0] | rw [m1] | rw [m2] | rw [m3] | skip
                  refine jr_iload_n d_M_moveValue_204 rfl rfl ?_
                  refine jv_V1r d_M_moveValue_205 l_M_197 k_H_globalAt ⟨Nat.le_of_ble_eq_true rfl, Nat.le_of_ble_eq_true rfl⟩ rfl rfl (Nat.le_of_ble_eq_true rfl) (show jc_Ct y_H_globalAt _ _ _ _ (some (.inl (h_ga _ _)), _, _, _, 0, 0) from ct_H_globalAt hH.2.1) (by first | decide | (dsimp only; omega) | (dsimp only; grind) | (dsimp only; subst e1; unfold m_mv; (repeat (first | rw [if_pos (by grind)] | rw [if_neg (by grind)])); dsimp only; omega)) (by first | decide | (dsimp only; omega) | (dsimp only; grind) | (dsimp only; subst e1; unfold m_mv; (repeat (first | rw [if_pos (by grind)] | rw [if_neg (by grind)])); dsimp only; omega)) ?_
                  refine jv_V1v d_M_moveValue_208 l_M_177 k_F_push ⟨Nat.le_of_ble_eq_true rfl, Nat.le_of_ble_eq_true rfl⟩ rfl rfl (Nat.le_of_ble_eq_true rfl) (show jc_Ct y_F_push _ _ _ _ (none, f_psh _ _ _ _, _, _, 0, 0) from ct_F_push hf.1) (by first | decide | (dsimp only; omega) | (dsimp only; grind) | (dsimp only; subst e1; unfold m_mv; (repeat (first | rw [if_pos (by grind)] | rw [if_neg (by grind)])); dsimp only; omega)) (by first | decide | (dsimp only; omega) | (dsimp only; grind) | (dsimp only; subst e1; unfold m_mv; (repeat (first | rw [if_pos (by grind)] | rw [if_neg (by grind)])); dsimp only; omega)) ?_
                  refine jr_goto (tgt := 229) d_M_moveValue_211 (by decide) ?_
                  exact jr_retX (v := none) d_M_moveValue_229 (by first | exact Nat.le_refl _ | exact Nat.zero_le _ | (dsimp only; omega) | (dsimp only; subst e1; unfold m_mv; (repeat (first | rw [if_pos (by grind)] | rw [if_neg (by grind)])); dsimp only; omega)) (by first | exact Nat.le_refl _ | exact Nat.zero_le _ | (dsimp only; omega) | (dsimp only; subst e1; unfold m_mv; (repeat (first | rw [if_pos (by grind)] | rw [if_neg (by grind)])); dsimp only; omega)) (by first | with_reducible rfl | (dsimp only; (subst e1; unfold m_mv; (repeat (first | rw [if_pos (by grind)] | rw [if_neg (by grind)]))); done) | (exfalso; grind)) (by first | with_reducible rfl | (dsimp only; (subst e1; unfold m_mv; (repeat (first | rw [if_pos (by grind)] | rw [if_neg (by grind)]))); done) | (exfalso; grind)) (by first | with_reducible rfl | (dsimp only; (subst e1; unfold m_mv; (repeat (first | rw [if_pos (by grind)] | rw [if_neg (by grind)]))); done) | (exfalso; grind)) (by first | with_reducible rfl | (dsimp only; (subst e1; unfold m_mv; (repeat (first | rw [if_pos (by grind)] | rw [if_neg (by grind)]))); done) | (exfalso; grind))
                · skip
                  by_cases g1_26 : x1 = 26
                  · refine jr_tableIn (tgt := 214) d_M_moveValue_1 (by rcases g1_26 with rfl <;> decide) (by rcases g1_26 with rfl <;> decide) (by rcases g1_26 with rfl <;> rfl) (by decide) ?_
                    refine jr_aload_n d_M_moveValue_214 rfl rfl ?_
                    refine jr_getr d_M_moveValue_215 f_M_25 rfl rfl ?_
                    first | rw [m0] | rw [m1] | rw [m2] | rw [m3] | skip
                    refine jr_iload_n d_M_moveValue_218 rfl rfl ?_
                    refine jr_aload_n d_M_moveValue_219 rfl rfl ?_
                    refine jv_V0r d_M_moveValue_220 l_M_162 k_F_pop ⟨Nat.le_of_ble_eq_true rfl, Nat.le_of_ble_eq_true rfl⟩ rfl rfl (Nat.le_of_ble_eq_true rfl) (show jc_Ct y_F_pop _ _ _ _ (some (.inl (f_tp _ _ _)), f_pop _ _ _, _, _, 0, 0) from ct_F_pop hf.1 hd.2) (by first | decide | (dsimp only; omega) | (dsimp only; grind) | (dsimp only; subst e1; unfold m_mv; (repeat (first | rw [if_pos (by grind)] | rw [if_neg (by grind)])); dsimp only; omega)) (by first | decide | (dsimp only; omega) | (dsimp only; grind) | (dsimp only; subst e1; unfold m_mv; (repeat (first | rw [if_pos (by grind)] | rw [if_neg (by grind)])); dsimp only; omega)) ?_
                    refine jv_V2v d_M_moveValue_223 l_M_200 k_H_setGlobal ⟨Nat.le_of_ble_eq_true rfl, Nat.le_of_ble_eq_true rfl⟩ rfl rfl (Nat.le_of_ble_eq_true rfl) (show jc_Ct y_H_setGlobal _ _ _ _ (none, h_sg _ _ _, _, _, 0, 0) from ct_H_setGlobal hH.2.1) (by first | decide | (dsimp only; omega) | (dsimp only; grind) | (dsimp only; subst e1; unfold m_mv; (repeat (first | rw [if_pos (by grind)] | rw [if_neg (by grind)])); dsimp only; omega)) (by first | decide | (dsimp only; omega) | (dsimp only; grind) | (dsimp only; subst e1; unfold m_mv; (repeat (first | rw [if_pos (by grind)] | rw [if_neg (by grind)])); dsimp only; omega)) ?_
                    refine jr_goto (tgt := 229) d_M_moveValue_226 (by decide) ?_
                    exact jr_retX (v := none) d_M_moveValue_229 (by first | exact Nat.le_refl _ | exact Nat.zero_le _ | (dsimp only; omega) | (dsimp only; subst e1; unfold m_mv; (repeat (first | rw [if_pos (by grind)] | rw [if_neg (by grind)])); dsimp only; omega)) (by first | exact Nat.le_refl _ | exact Nat.zero_le _ | (dsimp only; omega) | (dsimp only; subst e1; unfold m_mv; (repeat (first | rw [if_pos (by grind)] | rw [if_neg (by grind)])); dsimp only; omega)) (by first | with_reducible rfl | (dsimp only; (subst e1; unfold m_mv; (repeat (first | rw [if_pos (by grind)] | rw [if_neg (by grind)]))); done) | (exfalso; grind)) (by first | with_reducible rfl | (dsimp only; (subst e1; unfold m_mv; (repeat (first | rw [if_pos (by grind)] | rw [if_neg (by grind)]))); done) | (exfalso; grind)) (by first | with_reducible rfl | (dsimp only; (subst e1; unfold m_mv; (repeat (first | rw [if_pos (by grind)] | rw [if_neg (by grind)]))); done) | (exfalso; grind)) (by first | with_reducible rfl | (dsimp only; (subst e1; unfold m_mv; (repeat (first | rw [if_pos (by grind)] | rw [if_neg (by grind)]))); done) | (exfalso; grind))
                  · skip
                    refine jr_tableE (tgt := 229) d_M_moveValue_1 (by rcases j_0_26 x1 with h | h | rfl | rfl | rfl | rfl | rfl | rfl | rfl | rfl | rfl | rfl | rfl | rfl | rfl | rfl | rfl | rfl | rfl | rfl | rfl | rfl | rfl | rfl | rfl | rfl | rfl | rfl | rfl <;> first | exact Or.inl ⟨Or.inl (Int32.lt_iff_toInt_lt.mp h), by decide⟩ | exact Or.inl ⟨Or.inr (Int32.lt_iff_toInt_lt.mp h), by decide⟩ | exact Or.inr ⟨by decide, by decide, _, rfl, by decide⟩ | (exfalso; grind)) ?_
                    exact jr_retX (v := none) d_M_moveValue_229 (by first | exact Nat.le_refl _ | exact Nat.zero_le _ | (dsimp only; omega) | (dsimp only; subst e1; unfold m_mv; (repeat (first | rw [if_pos (by grind)] | rw [if_neg (by grind)])); dsimp only; omega)) (by first | exact Nat.le_refl _ | exact Nat.zero_le _ | (dsimp only; omega) | (dsimp only; subst e1; unfold m_mv; (repeat (first | rw [if_pos (by grind)] | rw [if_neg (by grind)])); dsimp only; omega)) (by first | with_reducible rfl | (dsimp only; (subst e1; unfold m_mv; (repeat (first | rw [if_pos (by grind)] | rw [if_neg (by grind)]))); done) | (exfalso; grind)) (by first | with_reducible rfl | (dsimp only; (subst e1; unfold m_mv; (repeat (first | rw [if_pos (by grind)] | rw [if_neg (by grind)]))); done) | (exfalso; grind)) (by first | with_reducible rfl | (dsimp only; (subst e1; unfold m_mv; (repeat (first | rw [if_pos (by grind)] | rw [if_neg (by grind)]))); done) | (exfalso; grind)) (by first | with_reducible rfl | (dsimp only; (subst e1; unfold m_mv; (repeat (first | rw [if_pos (by grind)] | rw [if_neg (by grind)]))); done) | (exfalso; grind))
def m_end (I : jc_I) (t : Nat) (a b : Int32) : jc_I := h_free (jc_up (jc_up I (9, t, 0) 4 a) (9, t, 0) 5 b) (I (9, t, 0) 0) (I (3, 0, 0) 2).toNatClampNeg
theorem ct_M_end {I : jc_I} {O : jc_O} {live : jc_L → Prop} {t : Nat} {a b : Int32} (hM : jw_M O) (hH : jw_H I O) : jc_Ct y_M_end [.inr (some (4, 0, 0)), .inr (some (9, t, 0)), .inl a, .inl b] I O live (none, m_end I t a b, O, live, 0, 0) := by
  obtain ⟨m0, m1, m2, m3⟩ := id hM
  refine jc_Ct.of (by decide +kernel) (rfl) (Nat.le_of_ble_eq_true rfl) ?_
  refine jr_aload_n d_M_end_0 rfl rfl ?_
  refine jr_iload_n d_M_end_1 rfl rfl ?_
  refine jr_iload_n d_M_end_2 rfl rfl ?_
  refine jv_V2v d_M_end_3 l_M_242 k_S_end ⟨Nat.le_of_ble_eq_true rfl, Nat.le_of_ble_eq_true rfl⟩ rfl rfl (Nat.le_of_ble_eq_true rfl) (ct_S_end) (by first | decide | (dsimp only; omega) | (dsimp only; grind)) (by first | decide | (dsimp only; omega) | (dsimp only; grind)) ?_
  refine jr_aload_n d_M_end_6 rfl rfl ?_
  refine jr_getr d_M_end_7 f_M_25 rfl rfl ?_
  first | rw [m0] | rw [m1] | rw [m2] | rw [m3] | skip
  refine jr_aload_n d_M_end_10 rfl rfl ?_
  refine jv_V0r d_M_end_11 l_M_113 k_S_number ⟨Nat.le_of_ble_eq_true rfl, Nat.le_of_ble_eq_true rfl⟩ rfl rfl (Nat.le_of_ble_eq_true rfl) (ct_S_number) (by first | decide | (dsimp only; omega) | (dsimp only; grind)) (by first | decide | (dsimp only; omega) | (dsimp only; grind)) ?_
  rw [jc_up_k _ _ _ _ _ _ (by decide), jc_up_k _ _ _ _ _ _ (by decide)]
  refine jv_V1v d_M_end_14 l_M_244 k_H_freeAllHeldBy ⟨Nat.le_of_ble_eq_true rfl, Nat.le_of_ble_eq_true rfl⟩ rfl rfl (Nat.le_of_ble_eq_true rfl) ((by have hH2 := hH.to (J := jc_up (jc_up I (9, t, 0) 4 a) (9, t, 0) 5 b) (by rw [jc_up_t _ _ _ _ _ _ _ _ (by decide), jc_up_t _ _ _ _ _ _ _ _ (by decide)]); exact ct_H_freeAllHeldBy hH2.1 hH2.2.2.2.1 hH2.2.2.1 (fun k hk => (hH2.2.2.2.2 k hk).1))) (by first | decide | (dsimp only; omega) | (dsimp only; grind)) (by first | decide | (dsimp only; omega) | (dsimp only; grind)) ?_
  exact jr_retX (v := none) d_M_end_17 (by first | exact Nat.le_refl _ | exact Nat.zero_le _ | (dsimp only; omega)) (by first | exact Nat.le_refl _ | exact Nat.zero_le _ | (dsimp only; omega)) (by first | with_reducible rfl | (dsimp only; (unfold m_end; rw [jc_up_t _ _ _ _ _ _ _ _ (by decide), jc_up_t _ _ _ _ _ _ _ _ (by decide)]); done) | (exfalso; grind)) (by first | with_reducible rfl | (dsimp only; (unfold m_end; rw [jc_up_t _ _ _ _ _ _ _ _ (by decide), jc_up_t _ _ _ _ _ _ _ _ (by decide)]); done) | (exfalso; grind)) (by first | with_reducible rfl | (dsimp only; (unfold m_end; rw [jc_up_t _ _ _ _ _ _ _ _ (by decide), jc_up_t _ _ _ _ _ _ _ _ (by decide)]); done) | (exfalso; grind)) (by first | with_reducible rfl | (dsimp only; (unfold m_end; rw [jc_up_t _ _ _ _ _ _ _ _ (by decide), jc_up_t _ _ _ _ _ _ _ _ (by decide)]); done) | (exfalso; grind))
/-- behind a frame's end -/
def s_ef (I : jc_I) (t : Nat) : jc_I := jc_up I (9, t, 0) 2 (if I (9, t, 0) 2 - 1 < 0 then 0 else I (9, t, 0) 2 - 1)
theorem s_ef_t {I : jc_I} {t a : Nat} {u : Nat × Nat} {k : Nat} (h : a ≠ 9) : s_ef I t (a, u) k = I (a, u) k := jc_up_t _ _ _ _ _ _ _ _ h
def m_gb0 (I : jc_I) (t j c : Nat) : jc_I := m_end (s_ef (if I (6, c, 0) 2 ≠ 0 then f_pop I t j else I) t) t 1 (if I (6, c, 0) 2 ≠ 0 then f_tp I t j else 0)
def m_gb1 (I : jc_I) (t j i c : Nat) : jc_I := f_on (if I (6, c, 0) 2 ≠ 0 then f_psh (s_ef (f_pop I t j) t) t i (f_tp I t j) else s_ef I t) t i
theorem ct_M_giveBack0 {I : jc_I} {O : jc_O} {live : jc_L → Prop} {t j c : Nat} (hM : jw_M O) (hH : jw_H I O) (hf : jw_f O t j) (hd : jw_d I t j) (hc : O (8, t, j) 2 = some (6, c, 0)) (h1 : O (9, t, 0) 1 = some (34, t, 0)) (h0 : I (9, t, 0) 2 = 1) : jc_Ct y_M_giveBack [.inr (some (4, 0, 0)), .inr (some (9, t, 0)), .inr (some (8, t, j))] I O live (none, m_gb0 I t j c, O, live, 0, 0) := by
  refine jc_Ct.of (by decide +kernel) (rfl) (Nat.le_of_ble_eq_true rfl) ?_
  refine jr_aload_n d_M_giveBack_0 rfl rfl ?_
  refine jv_V0r d_M_giveBack_1 l_M_94 k_F_ownCode ⟨Nat.le_of_ble_eq_true rfl, Nat.le_of_ble_eq_true rfl⟩ rfl rfl (Nat.le_of_ble_eq_true rfl) (ct_F_ownCode) (by first | decide | (dsimp only; omega) | (dsimp only; grind)) (by first | decide | (dsimp only; omega) | (dsimp only; grind)) ?_
  first | rw [hc] | skip
  refine jr_ifnull (tgt := 21) d_M_giveBack_4 (by decide) (fun c4 => by cases c4) (fun q4 c4 => ?_)
  refine jr_aload_n d_M_giveBack_7 rfl rfl ?_
  refine jv_V0r d_M_giveBack_8 l_M_94 k_F_ownCode ⟨Nat.le_of_ble_eq_true rfl, Nat.le_of_ble_eq_true rfl⟩ rfl rfl (Nat.le_of_ble_eq_true rfl) (ct_F_ownCode) (by first | decide | (dsimp only; omega) | (dsimp only; grind)) (by first | decide | (dsimp only; omega) | (dsimp only; grind)) ?_
  first | rw [hc] | skip
  refine jr_geti d_M_giveBack_11 f_M_222 rfl ?_
  refine jr_if_eq (tgt := 21) d_M_giveBack_14 (by decide) (fun c14 => ?_) (fun c14 => ?_)
  · skip
    refine jr_iconst (v := 0) d_M_giveBack_21 (by decide) ?_
    refine jr_istore_n d_M_giveBack_22 rfl (Nat.le_of_ble_eq_true rfl) ?_
    refine jr_iload_n d_M_giveBack_23 rfl rfl ?_
    refine jr_if_eq (tgt := 34) d_M_giveBack_24 (by decide) (fun c24 => ?_) (fun c24 => ?_)
    · skip
      refine jr_iconst (v := 0) d_M_giveBack_34 (by decide) ?_
      refine jr_istore d_M_giveBack_35 (Nat.le_of_ble_eq_true rfl) ?_
      refine jr_aload_n d_M_giveBack_37 rfl rfl ?_
      refine jv_V0v d_M_giveBack_38 l_M_225 k_S_endFrame ⟨Nat.le_of_ble_eq_true rfl, Nat.le_of_ble_eq_true rfl⟩ rfl rfl (Nat.le_of_ble_eq_true rfl) (show jc_Ct y_S_endFrame _ _ _ _ (none, s_ef _ _, _, _, 0, 0) from ct_S_endFrame) (by first | decide | (dsimp only; omega) | (dsimp only; grind)) (by first | decide | (dsimp only; omega) | (dsimp only; grind)) ?_
      refine jr_aload_n d_M_giveBack_41 rfl rfl ?_
      refine jv_V0r d_M_giveBack_42 l_M_90 k_S_top ⟨Nat.le_of_ble_eq_true rfl, Nat.le_of_ble_eq_true rfl⟩ rfl rfl (Nat.le_of_ble_eq_true rfl) (ct_S_topN h1 (by unfold s_ef; rw [jc_up_s]; first | (rw [f_pop_t (by decide), h0]; decide) | (rw [h0]; decide))) (by first | decide | (dsimp only; omega) | (dsimp only; grind)) (by first | decide | (dsimp only; omega) | (dsimp only; grind)) ?_
      first | rw [hc] | skip
      refine jr_astore d_M_giveBack_45 (Nat.le_of_ble_eq_true rfl) ?_
      refine jr_aload d_M_giveBack_47 rfl ?_
      refine jr_ifnonnull (tgt := 61) d_M_giveBack_49 (by decide) (fun q49 c49 => by cases c49) (fun c49 => ?_)
      refine jr_aload_n d_M_giveBack_52 rfl rfl ?_
      refine jr_aload_n d_M_giveBack_53 rfl rfl ?_
      refine jr_iconst (v := 1) d_M_giveBack_54 (by decide) ?_
      refine jr_iload d_M_giveBack_55 rfl ?_
      refine jv_V3v d_M_giveBack_57 l_M_228 k_M_end ⟨Nat.le_of_ble_eq_true rfl, Nat.le_of_ble_eq_true rfl⟩ rfl rfl (Nat.le_of_ble_eq_true rfl) (ct_M_end hM (hH.to (by first | (rw [s_ef_t (by decide), f_pop_t (by decide)]) | (rw [s_ef_t (by decide)])))) (by first | decide | (dsimp only; omega) | (dsimp only; grind)) (by first | decide | (dsimp only; omega) | (dsimp only; grind)) ?_
      exact jr_retX (v := none) d_M_giveBack_60 (by first | exact Nat.le_refl _ | exact Nat.zero_le _ | (dsimp only; omega)) (by first | exact Nat.le_refl _ | exact Nat.zero_le _ | (dsimp only; omega)) (by first | with_reducible rfl | (dsimp only; (unfold m_gb0; (repeat (first | rw [if_pos (by grind)] | rw [if_neg (by grind)]))); done) | (exfalso; grind)) (by first | with_reducible rfl | (dsimp only; (unfold m_gb0; (repeat (first | rw [if_pos (by grind)] | rw [if_neg (by grind)]))); done) | (exfalso; grind)) (by first | with_reducible rfl | (dsimp only; (unfold m_gb0; (repeat (first | rw [if_pos (by grind)] | rw [if_neg (by grind)]))); done) | (exfalso; grind)) (by first | with_reducible rfl | (dsimp only; (unfold m_gb0; (repeat (first | rw [if_pos (by grind)] | rw [if_neg (by grind)]))); done) | (exfalso; grind))
    · skip
      refine jr_aload_n d_M_giveBack_27 rfl rfl ?_
      refine jv_V0r d_M_giveBack_28 l_M_162 k_F_pop ⟨Nat.le_of_ble_eq_true rfl, Nat.le_of_ble_eq_true rfl⟩ rfl rfl (Nat.le_of_ble_eq_true rfl) (show jc_Ct y_F_pop _ _ _ _ (some (.inl (f_tp _ _ _)), f_pop _ _ _, _, _, 0, 0) from ct_F_pop hf.1 hd.2) (by first | decide | (dsimp only; omega) | (dsimp only; grind)) (by first | decide | (dsimp only; omega) | (dsimp only; grind)) ?_
      refine jr_goto (tgt := 35) d_M_giveBack_31 (by decide) ?_
      refine jr_istore d_M_giveBack_35 (Nat.le_of_ble_eq_true rfl) ?_
      refine jr_aload_n d_M_giveBack_37 rfl rfl ?_
      refine jv_V0v d_M_giveBack_38 l_M_225 k_S_endFrame ⟨Nat.le_of_ble_eq_true rfl, Nat.le_of_ble_eq_true rfl⟩ rfl rfl (Nat.le_of_ble_eq_true rfl) (show jc_Ct y_S_endFrame _ _ _ _ (none, s_ef _ _, _, _, 0, 0) from ct_S_endFrame) (by first | decide | (dsimp only; omega) | (dsimp only; grind)) (by first | decide | (dsimp only; omega) | (dsimp only; grind)) ?_
      refine jr_aload_n d_M_giveBack_41 rfl rfl ?_
      refine jv_V0r d_M_giveBack_42 l_M_90 k_S_top ⟨Nat.le_of_ble_eq_true rfl, Nat.le_of_ble_eq_true rfl⟩ rfl rfl (Nat.le_of_ble_eq_true rfl) (ct_S_topN h1 (by unfold s_ef; rw [jc_up_s]; first | (rw [f_pop_t (by decide), h0]; decide) | (rw [h0]; decide))) (by first | decide | (dsimp only; omega) | (dsimp only; grind)) (by first | decide | (dsimp only; omega) | (dsimp only; grind)) ?_
      first | rw [hc] | skip
      refine jr_astore d_M_giveBack_45 (Nat.le_of_ble_eq_true rfl) ?_
      refine jr_aload d_M_giveBack_47 rfl ?_
      refine jr_ifnonnull (tgt := 61) d_M_giveBack_49 (by decide) (fun q49 c49 => by cases c49) (fun c49 => ?_)
      refine jr_aload_n d_M_giveBack_52 rfl rfl ?_
      refine jr_aload_n d_M_giveBack_53 rfl rfl ?_
      refine jr_iconst (v := 1) d_M_giveBack_54 (by decide) ?_
      refine jr_iload d_M_giveBack_55 rfl ?_
      refine jv_V3v d_M_giveBack_57 l_M_228 k_M_end ⟨Nat.le_of_ble_eq_true rfl, Nat.le_of_ble_eq_true rfl⟩ rfl rfl (Nat.le_of_ble_eq_true rfl) (ct_M_end hM (hH.to (by first | (rw [s_ef_t (by decide), f_pop_t (by decide)]) | (rw [s_ef_t (by decide)])))) (by first | decide | (dsimp only; omega) | (dsimp only; grind)) (by first | decide | (dsimp only; omega) | (dsimp only; grind)) ?_
      exact jr_retX (v := none) d_M_giveBack_60 (by first | exact Nat.le_refl _ | exact Nat.zero_le _ | (dsimp only; omega)) (by first | exact Nat.le_refl _ | exact Nat.zero_le _ | (dsimp only; omega)) (by first | with_reducible rfl | (dsimp only; (unfold m_gb0; (repeat (first | rw [if_pos (by grind)] | rw [if_neg (by grind)]))); done) | (exfalso; grind)) (by first | with_reducible rfl | (dsimp only; (unfold m_gb0; (repeat (first | rw [if_pos (by grind)] | rw [if_neg (by grind)]))); done) | (exfalso; grind)) (by first | with_reducible rfl | (dsimp only; (unfold m_gb0; (repeat (first | rw [if_pos (by grind)] | rw [if_neg (by grind)]))); done) | (exfalso; grind)) (by first | with_reducible rfl | (dsimp only; (unfold m_gb0; (repeat (first | rw [if_pos (by grind)] | rw [if_neg (by grind)]))); done) | (exfalso; grind))
  · skip
    refine jr_iconst (v := 1) d_M_giveBack_17 (by decide) ?_
    refine jr_goto (tgt := 22) d_M_giveBack_18 (by decide) ?_
    refine jr_istore_n d_M_giveBack_22 rfl (Nat.le_of_ble_eq_true rfl) ?_
    refine jr_iload_n d_M_giveBack_23 rfl rfl ?_
    refine jr_if_eq (tgt := 34) d_M_giveBack_24 (by decide) (fun c24 => ?_) (fun c24 => ?_)
    · skip
      refine jr_iconst (v := 0) d_M_giveBack_34 (by decide) ?_
      refine jr_istore d_M_giveBack_35 (Nat.le_of_ble_eq_true rfl) ?_
      refine jr_aload_n d_M_giveBack_37 rfl rfl ?_
      refine jv_V0v d_M_giveBack_38 l_M_225 k_S_endFrame ⟨Nat.le_of_ble_eq_true rfl, Nat.le_of_ble_eq_true rfl⟩ rfl rfl (Nat.le_of_ble_eq_true rfl) (show jc_Ct y_S_endFrame _ _ _ _ (none, s_ef _ _, _, _, 0, 0) from ct_S_endFrame) (by first | decide | (dsimp only; omega) | (dsimp only; grind)) (by first | decide | (dsimp only; omega) | (dsimp only; grind)) ?_
      refine jr_aload_n d_M_giveBack_41 rfl rfl ?_
      refine jv_V0r d_M_giveBack_42 l_M_90 k_S_top ⟨Nat.le_of_ble_eq_true rfl, Nat.le_of_ble_eq_true rfl⟩ rfl rfl (Nat.le_of_ble_eq_true rfl) (ct_S_topN h1 (by unfold s_ef; rw [jc_up_s]; first | (rw [f_pop_t (by decide), h0]; decide) | (rw [h0]; decide))) (by first | decide | (dsimp only; omega) | (dsimp only; grind)) (by first | decide | (dsimp only; omega) | (dsimp only; grind)) ?_
      first | rw [hc] | skip
      refine jr_astore d_M_giveBack_45 (Nat.le_of_ble_eq_true rfl) ?_
      refine jr_aload d_M_giveBack_47 rfl ?_
      refine jr_ifnonnull (tgt := 61) d_M_giveBack_49 (by decide) (fun q49 c49 => by cases c49) (fun c49 => ?_)
      refine jr_aload_n d_M_giveBack_52 rfl rfl ?_
      refine jr_aload_n d_M_giveBack_53 rfl rfl ?_
      refine jr_iconst (v := 1) d_M_giveBack_54 (by decide) ?_
      refine jr_iload d_M_giveBack_55 rfl ?_
      refine jv_V3v d_M_giveBack_57 l_M_228 k_M_end ⟨Nat.le_of_ble_eq_true rfl, Nat.le_of_ble_eq_true rfl⟩ rfl rfl (Nat.le_of_ble_eq_true rfl) (ct_M_end hM (hH.to (by first | (rw [s_ef_t (by decide), f_pop_t (by decide)]) | (rw [s_ef_t (by decide)])))) (by first | decide | (dsimp only; omega) | (dsimp only; grind)) (by first | decide | (dsimp only; omega) | (dsimp only; grind)) ?_
      exact jr_retX (v := none) d_M_giveBack_60 (by first | exact Nat.le_refl _ | exact Nat.zero_le _ | (dsimp only; omega)) (by first | exact Nat.le_refl _ | exact Nat.zero_le _ | (dsimp only; omega)) (by first | with_reducible rfl | (dsimp only; (unfold m_gb0; (repeat (first | rw [if_pos (by grind)] | rw [if_neg (by grind)]))); done) | (exfalso; grind)) (by first | with_reducible rfl | (dsimp only; (unfold m_gb0; (repeat (first | rw [if_pos (by grind)] | rw [if_neg (by grind)]))); done) | (exfalso; grind)) (by first | with_reducible rfl | (dsimp only; (unfold m_gb0; (repeat (first | rw [if_pos (by grind)] | rw [if_neg (by grind)]))); done) | (exfalso; grind)) (by first | with_reducible rfl | (dsimp only; (unfold m_gb0; (repeat (first | rw [if_pos (by grind)] | rw [if_neg (by grind)]))); done) | (exfalso; grind))
    · skip
      refine jr_aload_n d_M_giveBack_27 rfl rfl ?_
      refine jv_V0r d_M_giveBack_28 l_M_162 k_F_pop ⟨Nat.le_of_ble_eq_true rfl, Nat.le_of_ble_eq_true rfl⟩ rfl rfl (Nat.le_of_ble_eq_true rfl) (show jc_Ct y_F_pop _ _ _ _ (some (.inl (f_tp _ _ _)), f_pop _ _ _, _, _, 0, 0) from ct_F_pop hf.1 hd.2) (by first | decide | (dsimp only; omega) | (dsimp only; grind)) (by first | decide | (dsimp only; omega) | (dsimp only; grind)) ?_
      refine jr_goto (tgt := 35) d_M_giveBack_31 (by decide) ?_
      refine jr_istore d_M_giveBack_35 (Nat.le_of_ble_eq_true rfl) ?_
      refine jr_aload_n d_M_giveBack_37 rfl rfl ?_
      refine jv_V0v d_M_giveBack_38 l_M_225 k_S_endFrame ⟨Nat.le_of_ble_eq_true rfl, Nat.le_of_ble_eq_true rfl⟩ rfl rfl (Nat.le_of_ble_eq_true rfl) (show jc_Ct y_S_endFrame _ _ _ _ (none, s_ef _ _, _, _, 0, 0) from ct_S_endFrame) (by first | decide | (dsimp only; omega) | (dsimp only; grind)) (by first | decide | (dsimp only; omega) | (dsimp only; grind)) ?_
      refine jr_aload_n d_M_giveBack_41 rfl rfl ?_
      refine jv_V0r d_M_giveBack_42 l_M_90 k_S_top ⟨Nat.le_of_ble_eq_true rfl, Nat.le_of_ble_eq_true rfl⟩ rfl rfl (Nat.le_of_ble_eq_true rfl) (ct_S_topN h1 (by unfold s_ef; rw [jc_up_s]; first | (rw [f_pop_t (by decide), h0]; decide) | (rw [h0]; decide))) (by first | decide | (dsimp only; omega) | (dsimp only; grind)) (by first | decide | (dsimp only; omega) | (dsimp only; grind)) ?_
      first | rw [hc] | skip
      refine jr_astore d_M_giveBack_45 (Nat.le_of_ble_eq_true rfl) ?_
      refine jr_aload d_M_giveBack_47 rfl ?_
      refine jr_ifnonnull (tgt := 61) d_M_giveBack_49 (by decide) (fun q49 c49 => by cases c49) (fun c49 => ?_)
      refine jr_aload_n d_M_giveBack_52 rfl rfl ?_
      refine jr_aload_n d_M_giveBack_53 rfl rfl ?_
      refine jr_iconst (v := 1) d_M_giveBack_54 (by decide) ?_
      refine jr_iload d_M_giveBack_55 rfl ?_
      refine jv_V3v d_M_giveBack_57 l_M_228 k_M_end ⟨Nat.le_of_ble_eq_true rfl, Nat.le_of_ble_eq_true rfl⟩ rfl rfl (Nat.le_of_ble_eq_true rfl) (ct_M_end hM (hH.to (by first | (rw [s_ef_t (by decide), f_pop_t (by decide)]) | (rw [s_ef_t (by decide)])))) (by first | decide | (dsimp only; omega) | (dsimp only; grind)) (by first | decide | (dsimp only; omega) | (dsimp only; grind)) ?_
      exact jr_retX (v := none) d_M_giveBack_60 (by first | exact Nat.le_refl _ | exact Nat.zero_le _ | (dsimp only; omega)) (by first | exact Nat.le_refl _ | exact Nat.zero_le _ | (dsimp only; omega)) (by first | with_reducible rfl | (dsimp only; (unfold m_gb0; (repeat (first | rw [if_pos (by grind)] | rw [if_neg (by grind)]))); done) | (exfalso; grind)) (by first | with_reducible rfl | (dsimp only; (unfold m_gb0; (repeat (first | rw [if_pos (by grind)] | rw [if_neg (by grind)]))); done) | (exfalso; grind)) (by first | with_reducible rfl | (dsimp only; (unfold m_gb0; (repeat (first | rw [if_pos (by grind)] | rw [if_neg (by grind)]))); done) | (exfalso; grind)) (by first | with_reducible rfl | (dsimp only; (unfold m_gb0; (repeat (first | rw [if_pos (by grind)] | rw [if_neg (by grind)]))); done) | (exfalso; grind))
theorem ct_M_giveBack1 {I : jc_I} {O : jc_O} {live : jc_L → Prop} {t j i c : Nat} (hf : jw_f O t j) (hd : jw_d I t j) (hc : O (8, t, j) 2 = some (6, c, 0)) (hi : jw_f O t i) (hT2 : jw_top (s_ef I t) O t i) : jc_Ct y_M_giveBack [.inr (some (4, 0, 0)), .inr (some (9, t, 0)), .inr (some (8, t, j))] I O live (none, m_gb1 I t j i c, O, live, 0, 0) := by
  refine jc_Ct.of (by decide +kernel) (rfl) (Nat.le_of_ble_eq_true rfl) ?_
  refine jr_aload_n d_M_giveBack_0 rfl rfl ?_
  refine jv_V0r d_M_giveBack_1 l_M_94 k_F_ownCode ⟨Nat.le_of_ble_eq_true rfl, Nat.le_of_ble_eq_true rfl⟩ rfl rfl (Nat.le_of_ble_eq_true rfl) (ct_F_ownCode) (by first | decide | (dsimp only; omega) | (dsimp only; grind)) (by first | decide | (dsimp only; omega) | (dsimp only; grind)) ?_
  first | rw [hc] | skip
  refine jr_ifnull (tgt := 21) d_M_giveBack_4 (by decide) (fun c4 => by cases c4) (fun q4 c4 => ?_)
  refine jr_aload_n d_M_giveBack_7 rfl rfl ?_
  refine jv_V0r d_M_giveBack_8 l_M_94 k_F_ownCode ⟨Nat.le_of_ble_eq_true rfl, Nat.le_of_ble_eq_true rfl⟩ rfl rfl (Nat.le_of_ble_eq_true rfl) (ct_F_ownCode) (by first | decide | (dsimp only; omega) | (dsimp only; grind)) (by first | decide | (dsimp only; omega) | (dsimp only; grind)) ?_
  first | rw [hc] | skip
  refine jr_geti d_M_giveBack_11 f_M_222 rfl ?_
  refine jr_if_eq (tgt := 21) d_M_giveBack_14 (by decide) (fun c14 => ?_) (fun c14 => ?_)
  · skip
    refine jr_iconst (v := 0) d_M_giveBack_21 (by decide) ?_
    refine jr_istore_n d_M_giveBack_22 rfl (Nat.le_of_ble_eq_true rfl) ?_
    refine jr_iload_n d_M_giveBack_23 rfl rfl ?_
    refine jr_if_eq (tgt := 34) d_M_giveBack_24 (by decide) (fun c24 => ?_) (fun c24 => ?_)
    · skip
      refine jr_iconst (v := 0) d_M_giveBack_34 (by decide) ?_
      refine jr_istore d_M_giveBack_35 (Nat.le_of_ble_eq_true rfl) ?_
      refine jr_aload_n d_M_giveBack_37 rfl rfl ?_
      refine jv_V0v d_M_giveBack_38 l_M_225 k_S_endFrame ⟨Nat.le_of_ble_eq_true rfl, Nat.le_of_ble_eq_true rfl⟩ rfl rfl (Nat.le_of_ble_eq_true rfl) (show jc_Ct y_S_endFrame _ _ _ _ (none, s_ef _ _, _, _, 0, 0) from ct_S_endFrame) (by first | decide | (dsimp only; omega) | (dsimp only; grind)) (by first | decide | (dsimp only; omega) | (dsimp only; grind)) ?_
      refine jr_aload_n d_M_giveBack_41 rfl rfl ?_
      refine jv_V0r d_M_giveBack_42 l_M_90 k_S_top ⟨Nat.le_of_ble_eq_true rfl, Nat.le_of_ble_eq_true rfl⟩ rfl rfl (Nat.le_of_ble_eq_true rfl) (ct_S_topF (by first | exact hT2 | (unfold jw_top s_ef at *; rw [jc_up_s] at *; rw [f_pop_t (by decide)]; exact hT2))) (by first | decide | (dsimp only; omega) | (dsimp only; grind)) (by first | decide | (dsimp only; omega) | (dsimp only; grind)) ?_
      first | rw [hc] | skip
      refine jr_astore d_M_giveBack_45 (Nat.le_of_ble_eq_true rfl) ?_
      refine jr_aload d_M_giveBack_47 rfl ?_
      refine jr_ifnonnull (tgt := 61) d_M_giveBack_49 (by decide) (fun q49 c49 => ?_) (fun c49 => by cases c49)
      refine jr_iload_n d_M_giveBack_61 rfl rfl ?_
      refine jr_if_eq (tgt := 72) d_M_giveBack_62 (by decide) (fun c62 => ?_) (fun c62 => ?_)
      · skip
        refine jr_aload d_M_giveBack_72 rfl ?_
        refine jv_V0v d_M_giveBack_74 l_M_180 k_F_goOn ⟨Nat.le_of_ble_eq_true rfl, Nat.le_of_ble_eq_true rfl⟩ rfl rfl (Nat.le_of_ble_eq_true rfl) (show jc_Ct y_F_goOn _ _ _ _ (none, f_on _ _ _, _, _, 0, 0) from ct_F_goOn) (by first | decide | (dsimp only; omega) | (dsimp only; grind)) (by first | decide | (dsimp only; omega) | (dsimp only; grind)) ?_
        exact jr_retX (v := none) d_M_giveBack_77 (by first | exact Nat.le_refl _ | exact Nat.zero_le _ | (dsimp only; omega)) (by first | exact Nat.le_refl _ | exact Nat.zero_le _ | (dsimp only; omega)) (by first | with_reducible rfl | (dsimp only; (unfold m_gb1; (repeat (first | rw [if_pos (by grind)] | rw [if_neg (by grind)]))); done) | (exfalso; grind)) (by first | with_reducible rfl | (dsimp only; (unfold m_gb1; (repeat (first | rw [if_pos (by grind)] | rw [if_neg (by grind)]))); done) | (exfalso; grind)) (by first | with_reducible rfl | (dsimp only; (unfold m_gb1; (repeat (first | rw [if_pos (by grind)] | rw [if_neg (by grind)]))); done) | (exfalso; grind)) (by first | with_reducible rfl | (dsimp only; (unfold m_gb1; (repeat (first | rw [if_pos (by grind)] | rw [if_neg (by grind)]))); done) | (exfalso; grind))
      · skip
        refine jr_aload d_M_giveBack_65 rfl ?_
        refine jr_iload d_M_giveBack_67 rfl ?_
        refine jv_V1v d_M_giveBack_69 l_M_177 k_F_push ⟨Nat.le_of_ble_eq_true rfl, Nat.le_of_ble_eq_true rfl⟩ rfl rfl (Nat.le_of_ble_eq_true rfl) (show jc_Ct y_F_push _ _ _ _ (none, f_psh _ _ _ _, _, _, 0, 0) from ct_F_push hi.1) (by first | decide | (dsimp only; omega) | (dsimp only; grind)) (by first | decide | (dsimp only; omega) | (dsimp only; grind)) ?_
        refine jr_aload d_M_giveBack_72 rfl ?_
        refine jv_V0v d_M_giveBack_74 l_M_180 k_F_goOn ⟨Nat.le_of_ble_eq_true rfl, Nat.le_of_ble_eq_true rfl⟩ rfl rfl (Nat.le_of_ble_eq_true rfl) (show jc_Ct y_F_goOn _ _ _ _ (none, f_on _ _ _, _, _, 0, 0) from ct_F_goOn) (by first | decide | (dsimp only; omega) | (dsimp only; grind)) (by first | decide | (dsimp only; omega) | (dsimp only; grind)) ?_
        exact jr_retX (v := none) d_M_giveBack_77 (by first | exact Nat.le_refl _ | exact Nat.zero_le _ | (dsimp only; omega)) (by first | exact Nat.le_refl _ | exact Nat.zero_le _ | (dsimp only; omega)) (by first | with_reducible rfl | (dsimp only; (unfold m_gb1; (repeat (first | rw [if_pos (by grind)] | rw [if_neg (by grind)]))); done) | (exfalso; grind)) (by first | with_reducible rfl | (dsimp only; (unfold m_gb1; (repeat (first | rw [if_pos (by grind)] | rw [if_neg (by grind)]))); done) | (exfalso; grind)) (by first | with_reducible rfl | (dsimp only; (unfold m_gb1; (repeat (first | rw [if_pos (by grind)] | rw [if_neg (by grind)]))); done) | (exfalso; grind)) (by first | with_reducible rfl | (dsimp only; (unfold m_gb1; (repeat (first | rw [if_pos (by grind)] | rw [if_neg (by grind)]))); done) | (exfalso; grind))
    · skip
      refine jr_aload_n d_M_giveBack_27 rfl rfl ?_
      refine jv_V0r d_M_giveBack_28 l_M_162 k_F_pop ⟨Nat.le_of_ble_eq_true rfl, Nat.le_of_ble_eq_true rfl⟩ rfl rfl (Nat.le_of_ble_eq_true rfl) (show jc_Ct y_F_pop _ _ _ _ (some (.inl (f_tp _ _ _)), f_pop _ _ _, _, _, 0, 0) from ct_F_pop hf.1 hd.2) (by first | decide | (dsimp only; omega) | (dsimp only; grind)) (by first | decide | (dsimp only; omega) | (dsimp only; grind)) ?_
      refine jr_goto (tgt := 35) d_M_giveBack_31 (by decide) ?_
      refine jr_istore d_M_giveBack_35 (Nat.le_of_ble_eq_true rfl) ?_
      refine jr_aload_n d_M_giveBack_37 rfl rfl ?_
      refine jv_V0v d_M_giveBack_38 l_M_225 k_S_endFrame ⟨Nat.le_of_ble_eq_true rfl, Nat.le_of_ble_eq_true rfl⟩ rfl rfl (Nat.le_of_ble_eq_true rfl) (show jc_Ct y_S_endFrame _ _ _ _ (none, s_ef _ _, _, _, 0, 0) from ct_S_endFrame) (by first | decide | (dsimp only; omega) | (dsimp only; grind)) (by first | decide | (dsimp only; omega) | (dsimp only; grind)) ?_
      refine jr_aload_n d_M_giveBack_41 rfl rfl ?_
      refine jv_V0r d_M_giveBack_42 l_M_90 k_S_top ⟨Nat.le_of_ble_eq_true rfl, Nat.le_of_ble_eq_true rfl⟩ rfl rfl (Nat.le_of_ble_eq_true rfl) (ct_S_topF (by first | exact hT2 | (unfold jw_top s_ef at *; rw [jc_up_s] at *; rw [f_pop_t (by decide)]; exact hT2))) (by first | decide | (dsimp only; omega) | (dsimp only; grind)) (by first | decide | (dsimp only; omega) | (dsimp only; grind)) ?_
      first | rw [hc] | skip
      refine jr_astore d_M_giveBack_45 (Nat.le_of_ble_eq_true rfl) ?_
      refine jr_aload d_M_giveBack_47 rfl ?_
      refine jr_ifnonnull (tgt := 61) d_M_giveBack_49 (by decide) (fun q49 c49 => ?_) (fun c49 => by cases c49)
      refine jr_iload_n d_M_giveBack_61 rfl rfl ?_
      refine jr_if_eq (tgt := 72) d_M_giveBack_62 (by decide) (fun c62 => ?_) (fun c62 => ?_)
      · skip
        refine jr_aload d_M_giveBack_72 rfl ?_
        refine jv_V0v d_M_giveBack_74 l_M_180 k_F_goOn ⟨Nat.le_of_ble_eq_true rfl, Nat.le_of_ble_eq_true rfl⟩ rfl rfl (Nat.le_of_ble_eq_true rfl) (show jc_Ct y_F_goOn _ _ _ _ (none, f_on _ _ _, _, _, 0, 0) from ct_F_goOn) (by first | decide | (dsimp only; omega) | (dsimp only; grind)) (by first | decide | (dsimp only; omega) | (dsimp only; grind)) ?_
        exact jr_retX (v := none) d_M_giveBack_77 (by first | exact Nat.le_refl _ | exact Nat.zero_le _ | (dsimp only; omega)) (by first | exact Nat.le_refl _ | exact Nat.zero_le _ | (dsimp only; omega)) (by first | with_reducible rfl | (dsimp only; (unfold m_gb1; (repeat (first | rw [if_pos (by grind)] | rw [if_neg (by grind)]))); done) | (exfalso; grind)) (by first | with_reducible rfl | (dsimp only; (unfold m_gb1; (repeat (first | rw [if_pos (by grind)] | rw [if_neg (by grind)]))); done) | (exfalso; grind)) (by first | with_reducible rfl | (dsimp only; (unfold m_gb1; (repeat (first | rw [if_pos (by grind)] | rw [if_neg (by grind)]))); done) | (exfalso; grind)) (by first | with_reducible rfl | (dsimp only; (unfold m_gb1; (repeat (first | rw [if_pos (by grind)] | rw [if_neg (by grind)]))); done) | (exfalso; grind))
      · skip
        refine jr_aload d_M_giveBack_65 rfl ?_
        refine jr_iload d_M_giveBack_67 rfl ?_
        refine jv_V1v d_M_giveBack_69 l_M_177 k_F_push ⟨Nat.le_of_ble_eq_true rfl, Nat.le_of_ble_eq_true rfl⟩ rfl rfl (Nat.le_of_ble_eq_true rfl) (show jc_Ct y_F_push _ _ _ _ (none, f_psh _ _ _ _, _, _, 0, 0) from ct_F_push hi.1) (by first | decide | (dsimp only; omega) | (dsimp only; grind)) (by first | decide | (dsimp only; omega) | (dsimp only; grind)) ?_
        refine jr_aload d_M_giveBack_72 rfl ?_
        refine jv_V0v d_M_giveBack_74 l_M_180 k_F_goOn ⟨Nat.le_of_ble_eq_true rfl, Nat.le_of_ble_eq_true rfl⟩ rfl rfl (Nat.le_of_ble_eq_true rfl) (show jc_Ct y_F_goOn _ _ _ _ (none, f_on _ _ _, _, _, 0, 0) from ct_F_goOn) (by first | decide | (dsimp only; omega) | (dsimp only; grind)) (by first | decide | (dsimp only; omega) | (dsimp only; grind)) ?_
        exact jr_retX (v := none) d_M_giveBack_77 (by first | exact Nat.le_refl _ | exact Nat.zero_le _ | (dsimp only; omega)) (by first | exact Nat.le_refl _ | exact Nat.zero_le _ | (dsimp only; omega)) (by first | with_reducible rfl | (dsimp only; (unfold m_gb1; (repeat (first | rw [if_pos (by grind)] | rw [if_neg (by grind)]))); done) | (exfalso; grind)) (by first | with_reducible rfl | (dsimp only; (unfold m_gb1; (repeat (first | rw [if_pos (by grind)] | rw [if_neg (by grind)]))); done) | (exfalso; grind)) (by first | with_reducible rfl | (dsimp only; (unfold m_gb1; (repeat (first | rw [if_pos (by grind)] | rw [if_neg (by grind)]))); done) | (exfalso; grind)) (by first | with_reducible rfl | (dsimp only; (unfold m_gb1; (repeat (first | rw [if_pos (by grind)] | rw [if_neg (by grind)]))); done) | (exfalso; grind))
  · skip
    refine jr_iconst (v := 1) d_M_giveBack_17 (by decide) ?_
    refine jr_goto (tgt := 22) d_M_giveBack_18 (by decide) ?_
    refine jr_istore_n d_M_giveBack_22 rfl (Nat.le_of_ble_eq_true rfl) ?_
    refine jr_iload_n d_M_giveBack_23 rfl rfl ?_
    refine jr_if_eq (tgt := 34) d_M_giveBack_24 (by decide) (fun c24 => ?_) (fun c24 => ?_)
    · skip
      refine jr_iconst (v := 0) d_M_giveBack_34 (by decide) ?_
      refine jr_istore d_M_giveBack_35 (Nat.le_of_ble_eq_true rfl) ?_
      refine jr_aload_n d_M_giveBack_37 rfl rfl ?_
      refine jv_V0v d_M_giveBack_38 l_M_225 k_S_endFrame ⟨Nat.le_of_ble_eq_true rfl, Nat.le_of_ble_eq_true rfl⟩ rfl rfl (Nat.le_of_ble_eq_true rfl) (show jc_Ct y_S_endFrame _ _ _ _ (none, s_ef _ _, _, _, 0, 0) from ct_S_endFrame) (by first | decide | (dsimp only; omega) | (dsimp only; grind)) (by first | decide | (dsimp only; omega) | (dsimp only; grind)) ?_
      refine jr_aload_n d_M_giveBack_41 rfl rfl ?_
      refine jv_V0r d_M_giveBack_42 l_M_90 k_S_top ⟨Nat.le_of_ble_eq_true rfl, Nat.le_of_ble_eq_true rfl⟩ rfl rfl (Nat.le_of_ble_eq_true rfl) (ct_S_topF (by first | exact hT2 | (unfold jw_top s_ef at *; rw [jc_up_s] at *; rw [f_pop_t (by decide)]; exact hT2))) (by first | decide | (dsimp only; omega) | (dsimp only; grind)) (by first | decide | (dsimp only; omega) | (dsimp only; grind)) ?_
      first | rw [hc] | skip
      refine jr_astore d_M_giveBack_45 (Nat.le_of_ble_eq_true rfl) ?_
      refine jr_aload d_M_giveBack_47 rfl ?_
      refine jr_ifnonnull (tgt := 61) d_M_giveBack_49 (by decide) (fun q49 c49 => ?_) (fun c49 => by cases c49)
      refine jr_iload_n d_M_giveBack_61 rfl rfl ?_
      refine jr_if_eq (tgt := 72) d_M_giveBack_62 (by decide) (fun c62 => ?_) (fun c62 => ?_)
      · skip
        refine jr_aload d_M_giveBack_72 rfl ?_
        refine jv_V0v d_M_giveBack_74 l_M_180 k_F_goOn ⟨Nat.le_of_ble_eq_true rfl, Nat.le_of_ble_eq_true rfl⟩ rfl rfl (Nat.le_of_ble_eq_true rfl) (show jc_Ct y_F_goOn _ _ _ _ (none, f_on _ _ _, _, _, 0, 0) from ct_F_goOn) (by first | decide | (dsimp only; omega) | (dsimp only; grind)) (by first | decide | (dsimp only; omega) | (dsimp only; grind)) ?_
        exact jr_retX (v := none) d_M_giveBack_77 (by first | exact Nat.le_refl _ | exact Nat.zero_le _ | (dsimp only; omega)) (by first | exact Nat.le_refl _ | exact Nat.zero_le _ | (dsimp only; omega)) (by first | with_reducible rfl | (dsimp only; (unfold m_gb1; (repeat (first | rw [if_pos (by grind)] | rw [if_neg (by grind)]))); done) | (exfalso; grind)) (by first | with_reducible rfl | (dsimp only; (unfold m_gb1; (repeat (first | rw [if_pos (by grind)] | rw [if_neg (by grind)]))); done) | (exfalso; grind)) (by first | with_reducible rfl | (dsimp only; (unfold m_gb1; (repeat (first | rw [if_pos (by grind)] | rw [if_neg (by grind)]))); done) | (exfalso; grind)) (by first | with_reducible rfl | (dsimp only; (unfold m_gb1; (repeat (first | rw [if_pos (by grind)] | rw [if_neg (by grind)]))); done) | (exfalso; grind))
      · skip
        refine jr_aload d_M_giveBack_65 rfl ?_
        refine jr_iload d_M_giveBack_67 rfl ?_
        refine jv_V1v d_M_giveBack_69 l_M_177 k_F_push ⟨Nat.le_of_ble_eq_true rfl, Nat.le_of_ble_eq_true rfl⟩ rfl rfl (Nat.le_of_ble_eq_true rfl) (show jc_Ct y_F_push _ _ _ _ (none, f_psh _ _ _ _, _, _, 0, 0) from ct_F_push hi.1) (by first | decide | (dsimp only; omega) | (dsimp only; grind)) (by first | decide | (dsimp only; omega) | (dsimp only; grind)) ?_
        refine jr_aload d_M_giveBack_72 rfl ?_
        refine jv_V0v d_M_giveBack_74 l_M_180 k_F_goOn ⟨Nat.le_of_ble_eq_true rfl, Nat.le_of_ble_eq_true rfl⟩ rfl rfl (Nat.le_of_ble_eq_true rfl) (show jc_Ct y_F_goOn _ _ _ _ (none, f_on _ _ _, _, _, 0, 0) from ct_F_goOn) (by first | decide | (dsimp only; omega) | (dsimp only; grind)) (by first | decide | (dsimp only; omega) | (dsimp only; grind)) ?_
        exact jr_retX (v := none) d_M_giveBack_77 (by first | exact Nat.le_refl _ | exact Nat.zero_le _ | (dsimp only; omega)) (by first | exact Nat.le_refl _ | exact Nat.zero_le _ | (dsimp only; omega)) (by first | with_reducible rfl | (dsimp only; (unfold m_gb1; (repeat (first | rw [if_pos (by grind)] | rw [if_neg (by grind)]))); done) | (exfalso; grind)) (by first | with_reducible rfl | (dsimp only; (unfold m_gb1; (repeat (first | rw [if_pos (by grind)] | rw [if_neg (by grind)]))); done) | (exfalso; grind)) (by first | with_reducible rfl | (dsimp only; (unfold m_gb1; (repeat (first | rw [if_pos (by grind)] | rw [if_neg (by grind)]))); done) | (exfalso; grind)) (by first | with_reducible rfl | (dsimp only; (unfold m_gb1; (repeat (first | rw [if_pos (by grind)] | rw [if_neg (by grind)]))); done) | (exfalso; grind))
    · skip
      refine jr_aload_n d_M_giveBack_27 rfl rfl ?_
      refine jv_V0r d_M_giveBack_28 l_M_162 k_F_pop ⟨Nat.le_of_ble_eq_true rfl, Nat.le_of_ble_eq_true rfl⟩ rfl rfl (Nat.le_of_ble_eq_true rfl) (show jc_Ct y_F_pop _ _ _ _ (some (.inl (f_tp _ _ _)), f_pop _ _ _, _, _, 0, 0) from ct_F_pop hf.1 hd.2) (by first | decide | (dsimp only; omega) | (dsimp only; grind)) (by first | decide | (dsimp only; omega) | (dsimp only; grind)) ?_
      refine jr_goto (tgt := 35) d_M_giveBack_31 (by decide) ?_
      refine jr_istore d_M_giveBack_35 (Nat.le_of_ble_eq_true rfl) ?_
      refine jr_aload_n d_M_giveBack_37 rfl rfl ?_
      refine jv_V0v d_M_giveBack_38 l_M_225 k_S_endFrame ⟨Nat.le_of_ble_eq_true rfl, Nat.le_of_ble_eq_true rfl⟩ rfl rfl (Nat.le_of_ble_eq_true rfl) (show jc_Ct y_S_endFrame _ _ _ _ (none, s_ef _ _, _, _, 0, 0) from ct_S_endFrame) (by first | decide | (dsimp only; omega) | (dsimp only; grind)) (by first | decide | (dsimp only; omega) | (dsimp only; grind)) ?_
      refine jr_aload_n d_M_giveBack_41 rfl rfl ?_
      refine jv_V0r d_M_giveBack_42 l_M_90 k_S_top ⟨Nat.le_of_ble_eq_true rfl, Nat.le_of_ble_eq_true rfl⟩ rfl rfl (Nat.le_of_ble_eq_true rfl) (ct_S_topF (by first | exact hT2 | (unfold jw_top s_ef at *; rw [jc_up_s] at *; rw [f_pop_t (by decide)]; exact hT2))) (by first | decide | (dsimp only; omega) | (dsimp only; grind)) (by first | decide | (dsimp only; omega) | (dsimp only; grind)) ?_
      first | rw [hc] | skip
      refine jr_astore d_M_giveBack_45 (Nat.le_of_ble_eq_true rfl) ?_
      refine jr_aload d_M_giveBack_47 rfl ?_
      refine jr_ifnonnull (tgt := 61) d_M_giveBack_49 (by decide) (fun q49 c49 => ?_) (fun c49 => by cases c49)
      refine jr_iload_n d_M_giveBack_61 rfl rfl ?_
      refine jr_if_eq (tgt := 72) d_M_giveBack_62 (by decide) (fun c62 => ?_) (fun c62 => ?_)
      · skip
        refine jr_aload d_M_giveBack_72 rfl ?_
        refine jv_V0v d_M_giveBack_74 l_M_180 k_F_goOn ⟨Nat.le_of_ble_eq_true rfl, Nat.le_of_ble_eq_true rfl⟩ rfl rfl (Nat.le_of_ble_eq_true rfl) (show jc_Ct y_F_goOn _ _ _ _ (none, f_on _ _ _, _, _, 0, 0) from ct_F_goOn) (by first | decide | (dsimp only; omega) | (dsimp only; grind)) (by first | decide | (dsimp only; omega) | (dsimp only; grind)) ?_
        exact jr_retX (v := none) d_M_giveBack_77 (by first | exact Nat.le_refl _ | exact Nat.zero_le _ | (dsimp only; omega)) (by first | exact Nat.le_refl _ | exact Nat.zero_le _ | (dsimp only; omega)) (by first | with_reducible rfl | (dsimp only; (unfold m_gb1; (repeat (first | rw [if_pos (by grind)] | rw [if_neg (by grind)]))); done) | (exfalso; grind)) (by first | with_reducible rfl | (dsimp only; (unfold m_gb1; (repeat (first | rw [if_pos (by grind)] | rw [if_neg (by grind)]))); done) | (exfalso; grind)) (by first | with_reducible rfl | (dsimp only; (unfold m_gb1; (repeat (first | rw [if_pos (by grind)] | rw [if_neg (by grind)]))); done) | (exfalso; grind)) (by first | with_reducible rfl | (dsimp only; (unfold m_gb1; (repeat (first | rw [if_pos (by grind)] | rw [if_neg (by grind)]))); done) | (exfalso; grind))
      · skip
        refine jr_aload d_M_giveBack_65 rfl ?_
        refine jr_iload d_M_giveBack_67 rfl ?_
        refine jv_V1v d_M_giveBack_69 l_M_177 k_F_push ⟨Nat.le_of_ble_eq_true rfl, Nat.le_of_ble_eq_true rfl⟩ rfl rfl (Nat.le_of_ble_eq_true rfl) (show jc_Ct y_F_push _ _ _ _ (none, f_psh _ _ _ _, _, _, 0, 0) from ct_F_push hi.1) (by first | decide | (dsimp only; omega) | (dsimp only; grind)) (by first | decide | (dsimp only; omega) | (dsimp only; grind)) ?_
        refine jr_aload d_M_giveBack_72 rfl ?_
        refine jv_V0v d_M_giveBack_74 l_M_180 k_F_goOn ⟨Nat.le_of_ble_eq_true rfl, Nat.le_of_ble_eq_true rfl⟩ rfl rfl (Nat.le_of_ble_eq_true rfl) (show jc_Ct y_F_goOn _ _ _ _ (none, f_on _ _ _, _, _, 0, 0) from ct_F_goOn) (by first | decide | (dsimp only; omega) | (dsimp only; grind)) (by first | decide | (dsimp only; omega) | (dsimp only; grind)) ?_
        exact jr_retX (v := none) d_M_giveBack_77 (by first | exact Nat.le_refl _ | exact Nat.zero_le _ | (dsimp only; omega)) (by first | exact Nat.le_refl _ | exact Nat.zero_le _ | (dsimp only; omega)) (by first | with_reducible rfl | (dsimp only; (unfold m_gb1; (repeat (first | rw [if_pos (by grind)] | rw [if_neg (by grind)]))); done) | (exfalso; grind)) (by first | with_reducible rfl | (dsimp only; (unfold m_gb1; (repeat (first | rw [if_pos (by grind)] | rw [if_neg (by grind)]))); done) | (exfalso; grind)) (by first | with_reducible rfl | (dsimp only; (unfold m_gb1; (repeat (first | rw [if_pos (by grind)] | rw [if_neg (by grind)]))); done) | (exfalso; grind)) (by first | with_reducible rfl | (dsimp only; (unfold m_gb1; (repeat (first | rw [if_pos (by grind)] | rw [if_neg (by grind)]))); done) | (exfalso; grind))
