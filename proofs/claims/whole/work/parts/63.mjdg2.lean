def q_rw (I : jc_I) (c : Nat) : Nat → Nat → Int32
  | 0, _ => 1
  | m + 1, r => if I (44, c, 0) r ≤ I (43, c, 0) r ∨ I (11, c, 0) 6 < I (44, c, 0) r ∨ I (11, c, 0) 6 ≤ I (45, c, 0) r then 0 else q_rw I c m (r + 1)
def q_b (I : jc_I) (c r : Nat) : Int32 := if r = 0 ∨ ¬ (I (41, c, 0) (r - 1) = 11 ∨ I (41, c, 0) (r - 1) = 19 ∨ I (41, c, 0) (r - 1) = 22) then 1 else 0
def q_ar (I : jc_I) (c r : Nat) (b : Int32) : Int32 × jc_I :=
  if b = 0 ∧ q_lb I c (Int32.ofNat r) = 0 then (0, I)
  else if q_ta I c (Int32.ofNat r) (I (11, c, 0) 11).toNatClampNeg 0 = 0 then (if q_lb I c (Int32.ofNat r) = 0 then (1, I) else if b ≠ 0 ∧ 0 < I (10, 0, 0) 8 then (0, I) else (1, jc_up I (10, 0, 0) 8 0))
  else if b = 0 then (1, jc_up (jc_up I (51, 0, 0) 0 2) (10, 0, 0) 8 1) else (0, I)
def q_is (I : jc_I) (c r : Nat) (b : Int32) : Int32 × jc_I := q_and (q_ar I c r b) (fun J => q_gs J c (I (41, c, 0) r) (I (42, c, 0) r))
def q_gl (c : Nat) : Nat → Nat → jc_I → Int32 × jc_I
  | 0, _, I => (1, I)
  | m + 1, r, I => q_and (q_is I c r (q_b I c r)) (fun J => q_gl c m (r + 1) J)
/-- what the judge leaves as it is -/
def qE (I J : jc_I) : Prop := ∀ q k, q ≠ (51, 0, 0) → ¬ (q = (10, 0, 0) ∧ k = 8) → J q k = I q k
theorem qE.rf {I : jc_I} : qE I I := fun _ _ _ _ => rfl
theorem qE.tr {I J K : jc_I} (h : qE I J) (h2 : qE J K) : qE I K := fun q k a b => (h2 q k a b).trans (h q k a b)
theorem qE_gv {I : jc_I} {k : Int32} : qE I (q_gv I k).2 := fun _ _ a b => q_gv_e a b
theorem qE_tk {I : jc_I} {k : Int32} : qE I (q_tk I k).2 := fun _ _ _ b => q_tk_e b
theorem qE.and {I : jc_I} {r : Int32 × jc_I} {f : jc_I → Int32 × jc_I} (h : qE I r.2) (h2 : ∀ J, qE J (f J).2) : qE I (q_and r f).2 := by
  unfold q_and
  split
  · exact h
  · exact h.tr (h2 _)
theorem qE.ite {I : jc_I} {r s : Int32 × jc_I} {p : Prop} [Decidable p] (h1 : qE I r.2) (h2 : qE I s.2) : qE I (if p then r else s).2 := by split; exact h1; exact h2
theorem qE_gcl {d : Nat} : ∀ (m : Nat) (I : jc_I), qE I (q_gcl d m I).2
  | 0, I => qE_gv
  | m + 1, I => by
    rw [q_gcl]
    exact qE.ite qE.rf (qE.ite qE_tk (qE_tk.tr (qE_gcl m _)))
theorem qE_gc {I : jc_I} {a : Int32} : qE I (q_gc I a).2 := qE.ite (qE_gcl _ _) qE.rf
theorem qE_gs {I : jc_I} {c : Nat} {op a : Int32} : qE I (q_gs I c op a).2 := by
  unfold q_gs
  have r1 : ∀ J, qE J (q_1 J).2 := fun _ => qE.rf
  have tg : ∀ J, qE J ((fun J => (q_tg J c a, J)) J : Int32 × jc_I).2 := fun _ => qE.rf
  exact qE.ite qE_gv (qE.ite qE_gv (qE.ite (qE.ite (qE_tk.and r1) qE.rf) (qE.ite (qE.ite (qE_gv.and r1) qE.rf) (qE.ite (qE_tk.and (fun _ => qE_tk.and (fun _ => qE_gv.and r1))) (qE.ite (qE.ite (qE_gv.and r1) qE.rf) (qE.ite (qE.ite (qE_tk.and r1) qE.rf) (qE.ite qE.rf (qE.ite (qE_tk.and tg) (qE.ite (qE_tk.and tg) (qE.ite (qE_tk.and (fun _ => qE_gv.and r1)) (qE.ite (qE_tk.and (fun _ => qE_tk.and r1)) (qE.ite (qE_tk.and (fun _ => qE_gv.and r1)) (qE.ite (qE_tk.and (fun _ => qE_tk.and r1)) (qE.ite qE_tk (qE.ite (qE_tk.and (fun _ => qE.rf)) qE_gc)))))))))))))))
theorem qE_8 {I : jc_I} {v : Int32} : qE I (jc_up I (10, 0, 0) 8 v) := fun q k _ b => by unfold jc_up; rw [if_neg b]
theorem qE_51 {I : jc_I} {i : Nat} {v : Int32} : qE I (jc_up I (51, 0, 0) i v) := fun q k a _ => jc_up_q _ _ _ _ _ _ a
theorem qE_ar {I : jc_I} {c r : Nat} {b : Int32} : qE I (q_ar I c r b).2 := qE.ite qE.rf (qE.ite (qE.ite qE.rf (qE.ite qE.rf qE_8)) (qE.ite (qE_51.tr qE_8) qE.rf))
theorem qE_is {I : jc_I} {c r : Nat} {b : Int32} : qE I (q_is I c r b).2 := qE_ar.and (fun _ => qE_gs)
theorem qE_gl {c : Nat} : ∀ (m r : Nat) (I : jc_I), qE I (q_gl c m r I).2
  | 0, _, _ => qE.rf
  | m + 1, r, I => qE_is.and (fun J => qE_gl m (r + 1) J)
theorem qE.A {I J : jc_I} (h : qE I J) {O : jc_O} {live : jc_L → Prop} {cn : Nat} (hA : qA I O live cn) : qA J O live cn := hA.to (fun q k hq => h q k (fun g => by rw [g] at hq; simp at hq) (fun g => by rw [g.1] at hq; simp at hq))
theorem qE.n {I J : jc_I} (h : qE I J) {c : Nat} (hn : qn I c) : qn J c := by
  unfold qn at *
  rw [h _ 3 (by simp) (by simp), h _ 6 (by simp) (by simp), h _ 11 (by simp) (by simp)]
  exact hn
theorem qk_up {I : jc_I} {O : jc_O} {v : Int32} (h : qk I O) (h0 : 0 ≤ v) (h1 : v ≤ 12) : qk (jc_up I (10, 0, 0) 8 v) O := ⟨h.1, by rw [jc_up_s]; exact h0, by rw [jc_up_s]; exact h1⟩
theorem qk_51 {I : jc_I} {O : jc_O} {i : Nat} {v : Int32} (h : qk I O) : qk (jc_up I (51, 0, 0) i v) O := ⟨h.1, by rw [jc_up_t _ _ _ _ _ _ _ _ (by decide)]; exact h.2.1, by rw [jc_up_t _ _ _ _ _ _ _ _ (by decide)]; exact h.2.2⟩
theorem qk.and {O : jc_O} {r : Int32 × jc_I} {f : jc_I → Int32 × jc_I} (h : qk r.2 O) (h2 : ∀ J, qk J O → qk (f J).2 O) : qk (q_and r f).2 O := by
  unfold q_and
  split
  · exact h
  · exact h2 _ h
theorem qk.ite {O : jc_O} {r s : Int32 × jc_I} {p : Prop} [Decidable p] (h1 : qk r.2 O) (h2 : qk s.2 O) : qk (if p then r else s).2 O := by split; exact h1; exact h2
theorem qk.gcl {O : jc_O} {d : Nat} : ∀ (m : Nat) (I : jc_I), qk I O → qk (q_gcl d m I).2 O
  | 0, I, h => h.gv
  | m + 1, I, h => by
    rw [q_gcl]
    exact qk.ite h (qk.ite h.tk (qk.gcl m _ h.tk))
theorem qk.gs {I : jc_I} {O : jc_O} {c : Nat} {op a : Int32} (h : qk I O) : qk (q_gs I c op a).2 O := by
  unfold q_gs
  have r1 : ∀ J, qk J O → qk (q_1 J).2 O := fun _ h => h
  have tg : ∀ J, qk J O → qk ((fun J => (q_tg J c a, J)) J : Int32 × jc_I).2 O := fun _ h => h
  exact qk.ite h.gv (qk.ite h.gv (qk.ite (qk.ite (h.tk.and r1) h) (qk.ite (qk.ite (h.gv.and r1) h) (qk.ite (h.tk.and (fun _ h => h.tk.and (fun _ h => h.gv.and r1))) (qk.ite (qk.ite (h.gv.and r1) h) (qk.ite (qk.ite (h.tk.and r1) h) (qk.ite h (qk.ite (h.tk.and tg) (qk.ite (h.tk.and tg) (qk.ite (h.tk.and (fun _ h => h.gv.and r1)) (qk.ite (h.tk.and (fun _ h => h.tk.and r1)) (qk.ite (h.tk.and (fun _ h => h.gv.and r1)) (qk.ite (h.tk.and (fun _ h => h.tk.and r1)) (qk.ite h.tk (qk.ite (h.tk.and (fun _ h => h)) (qk.ite (qk.gcl _ _ h) h))))))))))))))))
theorem q_lb_E {I J : jc_I} (h : qE I J) {c : Nat} {p : Int32} : q_lb J c p = q_lb I c p := by
  have h1 : ∀ m r, q_lr J c p m r = q_lr I c p m r := by
    intro m
    induction m with
    | zero => intro r; rfl
    | succ m ih => intro r; rw [q_lr, q_lr, ih, h (45, c, 0) r (by simp) (by simp), h (43, c, 0) r (by simp) (by simp), h (44, c, 0) r (by simp) (by simp)]
  have h2 : ∀ m r, q_li J c p m r = q_li I c p m r := by
    intro m
    induction m with
    | zero => intro r; rfl
    | succ m ih => intro r; rw [q_li, q_li, ih, h (41, c, 0) r (by simp) (by simp), h (42, c, 0) r (by simp) (by simp)]
  unfold q_lb
  rw [h1, h2, h _ 11 (by simp) (by simp), h _ 6 (by simp) (by simp)]
theorem lp_m_isGood135 {I : jc_I} {O : jc_O} {live : jc_L → Prop} {cn c m r : Nat} {b : Int32} (hA : qA I O live cn) (hk : qk I O) (hc : qc O c) (hn : qn I c) (hr : r < 60) (hop : 0 ≤ I (41, c, 0) r ∧ I (41, c, 0) r ≤ 26)
    (hih : ∀ J, qE I J → qk J O → jc_R y_m_isGood 103 [some (.inr (some (10, 0, 0))), some (.inr (some (11, c, 0))), some (.inl (Int32.ofNat r + 1)), some (.inl b)] [] J O live 0 0 (some (.inl (q_gl c m (r + 1) J).1), (q_gl c m (r + 1) J).2, O, live, 0, 0)) :
    jc_R y_m_isGood 135 [some (.inr (some (10, 0, 0))), some (.inr (some (11, c, 0))), some (.inl (Int32.ofNat r)), some (.inl b)] [] I O live 0 0 (some (.inl (q_and (q_is I c r b) (fun J => q_gl c m (r + 1) J)).1), (q_and (q_is I c r b) (fun J => q_gl c m (r + 1) J)).2, O, live, 0, 0) := by
  obtain ⟨g2, g4, g5, g7, g8, g9, g10⟩ := id hc
  obtain ⟨m0, m2, m4, m6, m7⟩ := id hA.1
  have a1 := jofI (n := r) (by omega)
  have a3 := jofN (n := r) (by omega)
  refine jr_iload_n d_m_isGood_135 rfl rfl ?_
  refine jr_if_ne (tgt := 149) d_m_isGood_136 (by decide) (fun c136 => ?_) (fun c136 => ?_)
  · skip
    refine jr_aload_n d_m_isGood_149 rfl rfl ?_
    refine jr_iload_n d_m_isGood_150 rfl rfl ?_
    refine jv_V1r d_m_isGood_151 l_m_96 k_mC_isTaker ⟨Nat.le_of_ble_eq_true rfl, Nat.le_of_ble_eq_true rfl⟩ rfl rfl (Nat.le_of_ble_eq_true rfl) (ct_mC_isTaker hc hn) (by first | decide | exact Nat.zero_le _ | (dsimp only; omega) | (dsimp only; clear hA hc hn hih; grind)) (by first | decide | exact Nat.zero_le _ | (dsimp only; omega) | (dsimp only; clear hA hc hn hih; grind)) ?_
    refine jr_if_eq (tgt := 178) d_m_isGood_154 (by decide) (fun c154 => ?_) (fun c154 => ?_)
    · skip
      refine jr_aload_n d_m_isGood_178 rfl rfl ?_
      refine jr_iload_n d_m_isGood_179 rfl rfl ?_
      refine jv_V1r d_m_isGood_180 l_m_93 k_mC_isLabel ⟨Nat.le_of_ble_eq_true rfl, Nat.le_of_ble_eq_true rfl⟩ rfl rfl (Nat.le_of_ble_eq_true rfl) (ct_mC_isLabel hc hn) (by first | decide | exact Nat.zero_le _ | (dsimp only; omega) | (dsimp only; clear hA hc hn hih; grind)) (by first | decide | exact Nat.zero_le _ | (dsimp only; omega) | (dsimp only; clear hA hc hn hih; grind)) ?_
      refine jr_if_eq (tgt := 204) d_m_isGood_183 (by decide) (fun c183 => ?_) (fun c183 => ?_)
      · skip
        (have harr : q_ar I c r b = (1, I) := by clear hA hc hn hih; unfold q_ar; (repeat (first | rw [if_pos (by grind)] | rw [if_neg (by grind)])))
        refine jr_aload_n d_m_isGood_204 rfl rfl ?_
        refine jr_aload_n d_m_isGood_205 rfl rfl ?_
        refine jr_aload_n d_m_isGood_206 rfl rfl ?_
        refine jr_getr d_m_isGood_207 f_m_59 rfl rfl ?_
        first | rw [g2] | rw [g4] | rw [g5] | rw [g7] | rw [g8] | rw [g9] | rw [g10] | rw [m7] | skip
        refine jr_iload_n d_m_isGood_210 rfl rfl ?_
        refine jr_iald d_m_isGood_211 rfl rfl rfl (jinv (by rw [jle, a1, j0I]; omega) (by rw [a3]; show r < 60; omega)) ?_
        rw [a3]
        refine jr_aload_n d_m_isGood_212 rfl rfl ?_
        refine jr_getr d_m_isGood_213 f_m_62 rfl rfl ?_
        first | rw [g2] | rw [g4] | rw [g5] | rw [g7] | rw [g8] | rw [g9] | rw [g10] | rw [m7] | skip
        refine jr_iload_n d_m_isGood_216 rfl rfl ?_
        refine jr_iald d_m_isGood_217 rfl rfl rfl (jinv (by rw [jle, a1, j0I]; omega) (by rw [a3]; show r < 60; omega)) ?_
        rw [a3]
        refine jv_V3r d_m_isGood_218 l_m_99 k_m_isGoodStep ⟨Nat.le_of_ble_eq_true rfl, Nat.le_of_ble_eq_true rfl⟩ rfl rfl (Nat.le_of_ble_eq_true rfl) (ct_m_isGoodStep (by first | with_reducible exact hA | with_reducible exact qE_8.A hA | with_reducible exact (qE_51.tr qE_8).A hA) (by first | with_reducible exact hk | with_reducible exact qk_up hk (by decide) (by decide) | with_reducible exact qk_up (qk_51 hk) (by decide) (by decide)) hc (by first | with_reducible exact hn | with_reducible exact qE_8.n hn | with_reducible exact (qE_51.tr qE_8).n hn) hop.1 hop.2) (by first | decide | exact Nat.zero_le _ | (dsimp only; omega) | (dsimp only; clear hA hc hn hih; grind)) (by first | decide | exact Nat.zero_le _ | (dsimp only; omega) | (dsimp only; clear hA hc hn hih; grind)) ?_
        refine jr_if_ne (tgt := 226) d_m_isGood_221 (by decide) (fun c221 => ?_) (fun c221 => ?_)
        · skip
          refine jr_iinc d_m_isGood_226 rfl jinc1 ?_
          refine jr_goto (tgt := 103) d_m_isGood_229 (by decide) ?_
          (have hq1 : q_and (q_and (1, I) (fun J => q_gs J c (I (41, c, 0) r) (I (42, c, 0) r))) (fun J => q_gl c m (r + 1) J) = q_gl c m (r + 1) (q_gs I c (I (41, c, 0) r) (I (42, c, 0) r)).2 := by unfold q_and; dsimp only; rw [if_neg (show ¬ (1 : Int32) = 0 by decide)]; exact if_neg c221); unfold q_is; rw [harr, hq1]; exact hih _ ((qE.rf (I := I)).tr qE_gs) (qk.gs hk)
        · skip
          refine jr_iconst (v := 0) d_m_isGood_224 (by decide) ?_
          exact jr_retX (v := some _) d_m_isGood_225 (by first | exact Nat.le_refl _ | exact Nat.zero_le _ | (dsimp only; omega)) (by first | exact Nat.le_refl _ | exact Nat.zero_le _ | (dsimp only; omega)) (by first | with_reducible rfl | (dsimp only; (unfold q_is; rw [harr]; unfold q_and; dsimp only; rw [if_neg (show ¬ (1 : Int32) = 0 by decide), if_pos c221]); done) | ((unfold q_is; rw [harr]; unfold q_and; dsimp only; rw [if_neg (show ¬ (1 : Int32) = 0 by decide), if_pos c221]); done) | (exfalso; clear hA hc hn hih; grind)) (by first | with_reducible rfl | (dsimp only; (unfold q_is; rw [harr]; unfold q_and; dsimp only; rw [if_neg (show ¬ (1 : Int32) = 0 by decide), if_pos c221]); done) | ((unfold q_is; rw [harr]; unfold q_and; dsimp only; rw [if_neg (show ¬ (1 : Int32) = 0 by decide), if_pos c221]); done) | (exfalso; clear hA hc hn hih; grind)) (by first | with_reducible rfl | (dsimp only; (unfold q_is; rw [harr]; unfold q_and; dsimp only; rw [if_neg (show ¬ (1 : Int32) = 0 by decide), if_pos c221]); done) | ((unfold q_is; rw [harr]; unfold q_and; dsimp only; rw [if_neg (show ¬ (1 : Int32) = 0 by decide), if_pos c221]); done) | (exfalso; clear hA hc hn hih; grind)) (by first | with_reducible rfl | (dsimp only; (unfold q_is; rw [harr]; unfold q_and; dsimp only; rw [if_neg (show ¬ (1 : Int32) = 0 by decide), if_pos c221]); done) | ((unfold q_is; rw [harr]; unfold q_and; dsimp only; rw [if_neg (show ¬ (1 : Int32) = 0 by decide), if_pos c221]); done) | (exfalso; clear hA hc hn hih; grind))
      · skip
        refine jr_iload_n d_m_isGood_186 rfl rfl ?_
        refine jr_if_eq (tgt := 199) d_m_isGood_187 (by decide) (fun c187 => ?_) (fun c187 => ?_)
        · skip
          exact absurd c187 c136
        · skip
          refine jr_aload_n d_m_isGood_190 rfl rfl ?_
          refine jr_geti d_m_isGood_191 f_m_84 rfl ?_
          refine jr_if_le (tgt := 199) d_m_isGood_194 (by decide) (fun c194 => ?_) (fun c194 => ?_)
          · skip
            refine jr_aload_n d_m_isGood_199 rfl rfl ?_
            refine jr_iconst (v := 0) d_m_isGood_200 (by decide) ?_
            refine jr_puti d_m_isGood_201 f_m_84 (Or.inl rfl) rfl ?_
            (have harr : q_ar I c r b = (1, (jc_up I (10, 0, 0) 8 0)) := by clear hA hc hn hih; unfold q_ar; (repeat (first | rw [if_pos (by grind)] | rw [if_neg (by grind)])))
            refine jr_aload_n d_m_isGood_204 rfl rfl ?_
            refine jr_aload_n d_m_isGood_205 rfl rfl ?_
            refine jr_aload_n d_m_isGood_206 rfl rfl ?_
            refine jr_getr d_m_isGood_207 f_m_59 rfl rfl ?_
            try simp only [jc_up_s, jc_up_k, jc_up_t, jc_cl_s, jc_cl_t, ne_eq, Nat.reduceEqDiff, not_false_eq_true, Nat.reduceAdd]
            first | rw [g2] | rw [g4] | rw [g5] | rw [g7] | rw [g8] | rw [g9] | rw [g10] | rw [m7] | skip
            refine jr_iload_n d_m_isGood_210 rfl rfl ?_
            refine jr_iald d_m_isGood_211 rfl rfl rfl (jinv (by rw [jle, a1, j0I]; omega) (by rw [a3]; show r < 60; omega)) ?_
            try simp only [jc_up_s, jc_up_k, jc_up_t, jc_cl_s, jc_cl_t, ne_eq, Nat.reduceEqDiff, not_false_eq_true, Nat.reduceAdd]
            rw [a3]
            refine jr_aload_n d_m_isGood_212 rfl rfl ?_
            refine jr_getr d_m_isGood_213 f_m_62 rfl rfl ?_
            try simp only [jc_up_s, jc_up_k, jc_up_t, jc_cl_s, jc_cl_t, ne_eq, Nat.reduceEqDiff, not_false_eq_true, Nat.reduceAdd]
            first | rw [g2] | rw [g4] | rw [g5] | rw [g7] | rw [g8] | rw [g9] | rw [g10] | rw [m7] | skip
            refine jr_iload_n d_m_isGood_216 rfl rfl ?_
            refine jr_iald d_m_isGood_217 rfl rfl rfl (jinv (by rw [jle, a1, j0I]; omega) (by rw [a3]; show r < 60; omega)) ?_
            try simp only [jc_up_s, jc_up_k, jc_up_t, jc_cl_s, jc_cl_t, ne_eq, Nat.reduceEqDiff, not_false_eq_true, Nat.reduceAdd]
            rw [a3]
            refine jv_V3r d_m_isGood_218 l_m_99 k_m_isGoodStep ⟨Nat.le_of_ble_eq_true rfl, Nat.le_of_ble_eq_true rfl⟩ rfl rfl (Nat.le_of_ble_eq_true rfl) (ct_m_isGoodStep (by first | with_reducible exact hA | with_reducible exact qE_8.A hA | with_reducible exact (qE_51.tr qE_8).A hA) (by first | with_reducible exact hk | with_reducible exact qk_up hk (by decide) (by decide) | with_reducible exact qk_up (qk_51 hk) (by decide) (by decide)) hc (by first | with_reducible exact hn | with_reducible exact qE_8.n hn | with_reducible exact (qE_51.tr qE_8).n hn) hop.1 hop.2) (by first | decide | exact Nat.zero_le _ | (dsimp only; omega) | (dsimp only; clear hA hc hn hih; grind)) (by first | decide | exact Nat.zero_le _ | (dsimp only; omega) | (dsimp only; clear hA hc hn hih; grind)) ?_
            refine jr_if_ne (tgt := 226) d_m_isGood_221 (by decide) (fun c221 => ?_) (fun c221 => ?_)
            · skip
              refine jr_iinc d_m_isGood_226 rfl jinc1 ?_
              refine jr_goto (tgt := 103) d_m_isGood_229 (by decide) ?_
              (have hq1 : q_and (q_and (1, (jc_up I (10, 0, 0) 8 0)) (fun J => q_gs J c (I (41, c, 0) r) (I (42, c, 0) r))) (fun J => q_gl c m (r + 1) J) = q_gl c m (r + 1) (q_gs (jc_up I (10, 0, 0) 8 0) c (I (41, c, 0) r) (I (42, c, 0) r)).2 := by unfold q_and; dsimp only; rw [if_neg (show ¬ (1 : Int32) = 0 by decide)]; exact if_neg c221); unfold q_is; rw [harr, hq1]; exact hih _ ((qE_8 (I := I) (v := 0)).tr qE_gs) (qk.gs (qk_up hk (v := 0) (by decide) (by decide)))
            · skip
              refine jr_iconst (v := 0) d_m_isGood_224 (by decide) ?_
              exact jr_retX (v := some _) d_m_isGood_225 (by first | exact Nat.le_refl _ | exact Nat.zero_le _ | (dsimp only; omega)) (by first | exact Nat.le_refl _ | exact Nat.zero_le _ | (dsimp only; omega)) (by first | with_reducible rfl | (dsimp only; (unfold q_is; rw [harr]; unfold q_and; dsimp only; rw [if_neg (show ¬ (1 : Int32) = 0 by decide), if_pos c221]); done) | ((unfold q_is; rw [harr]; unfold q_and; dsimp only; rw [if_neg (show ¬ (1 : Int32) = 0 by decide), if_pos c221]); done) | (exfalso; clear hA hc hn hih; grind)) (by first | with_reducible rfl | (dsimp only; (unfold q_is; rw [harr]; unfold q_and; dsimp only; rw [if_neg (show ¬ (1 : Int32) = 0 by decide), if_pos c221]); done) | ((unfold q_is; rw [harr]; unfold q_and; dsimp only; rw [if_neg (show ¬ (1 : Int32) = 0 by decide), if_pos c221]); done) | (exfalso; clear hA hc hn hih; grind)) (by first | with_reducible rfl | (dsimp only; (unfold q_is; rw [harr]; unfold q_and; dsimp only; rw [if_neg (show ¬ (1 : Int32) = 0 by decide), if_pos c221]); done) | ((unfold q_is; rw [harr]; unfold q_and; dsimp only; rw [if_neg (show ¬ (1 : Int32) = 0 by decide), if_pos c221]); done) | (exfalso; clear hA hc hn hih; grind)) (by first | with_reducible rfl | (dsimp only; (unfold q_is; rw [harr]; unfold q_and; dsimp only; rw [if_neg (show ¬ (1 : Int32) = 0 by decide), if_pos c221]); done) | ((unfold q_is; rw [harr]; unfold q_and; dsimp only; rw [if_neg (show ¬ (1 : Int32) = 0 by decide), if_pos c221]); done) | (exfalso; clear hA hc hn hih; grind))
          · skip
            refine jr_iconst (v := 0) d_m_isGood_197 (by decide) ?_
            exact jr_retX (v := some _) d_m_isGood_198 (by first | exact Nat.le_refl _ | exact Nat.zero_le _ | (dsimp only; omega)) (by first | exact Nat.le_refl _ | exact Nat.zero_le _ | (dsimp only; omega)) (by first | with_reducible rfl | (dsimp only; (unfold q_is; rw [show q_ar I c r b = (0, I) by clear hA hc hn hih; unfold q_ar; (repeat (first | rw [if_pos (by grind)] | rw [if_neg (by grind)]))]; unfold q_and; rfl); done) | ((unfold q_is; rw [show q_ar I c r b = (0, I) by clear hA hc hn hih; unfold q_ar; (repeat (first | rw [if_pos (by grind)] | rw [if_neg (by grind)]))]; unfold q_and; rfl); done) | (exfalso; clear hA hc hn hih; grind)) (by first | with_reducible rfl | (dsimp only; (unfold q_is; rw [show q_ar I c r b = (0, I) by clear hA hc hn hih; unfold q_ar; (repeat (first | rw [if_pos (by grind)] | rw [if_neg (by grind)]))]; unfold q_and; rfl); done) | ((unfold q_is; rw [show q_ar I c r b = (0, I) by clear hA hc hn hih; unfold q_ar; (repeat (first | rw [if_pos (by grind)] | rw [if_neg (by grind)]))]; unfold q_and; rfl); done) | (exfalso; clear hA hc hn hih; grind)) (by first | with_reducible rfl | (dsimp only; (unfold q_is; rw [show q_ar I c r b = (0, I) by clear hA hc hn hih; unfold q_ar; (repeat (first | rw [if_pos (by grind)] | rw [if_neg (by grind)]))]; unfold q_and; rfl); done) | ((unfold q_is; rw [show q_ar I c r b = (0, I) by clear hA hc hn hih; unfold q_ar; (repeat (first | rw [if_pos (by grind)] | rw [if_neg (by grind)]))]; unfold q_and; rfl); done) | (exfalso; clear hA hc hn hih; grind)) (by first | with_reducible rfl | (dsimp only; (unfold q_is; rw [show q_ar I c r b = (0, I) by clear hA hc hn hih; unfold q_ar; (repeat (first | rw [if_pos (by grind)] | rw [if_neg (by grind)]))]; unfold q_and; rfl); done) | ((unfold q_is; rw [show q_ar I c r b = (0, I) by clear hA hc hn hih; unfold q_ar; (repeat (first | rw [if_pos (by grind)] | rw [if_neg (by grind)]))]; unfold q_and; rfl); done) | (exfalso; clear hA hc hn hih; grind))
    · skip
      refine jr_iload_n d_m_isGood_157 rfl rfl ?_
      refine jr_if_eq (tgt := 163) d_m_isGood_158 (by decide) (fun c158 => ?_) (fun c158 => ?_)
      · skip
        exact absurd c158 c136
      · skip
        refine jr_iconst (v := 0) d_m_isGood_161 (by decide) ?_
        exact jr_retX (v := some _) d_m_isGood_162 (by first | exact Nat.le_refl _ | exact Nat.zero_le _ | (dsimp only; omega)) (by first | exact Nat.le_refl _ | exact Nat.zero_le _ | (dsimp only; omega)) (by first | with_reducible rfl | (dsimp only; (unfold q_is; rw [show q_ar I c r b = (0, I) by clear hA hc hn hih; unfold q_ar; (repeat (first | rw [if_pos (by grind)] | rw [if_neg (by grind)]))]; unfold q_and; rfl); done) | ((unfold q_is; rw [show q_ar I c r b = (0, I) by clear hA hc hn hih; unfold q_ar; (repeat (first | rw [if_pos (by grind)] | rw [if_neg (by grind)]))]; unfold q_and; rfl); done) | (exfalso; clear hA hc hn hih; grind)) (by first | with_reducible rfl | (dsimp only; (unfold q_is; rw [show q_ar I c r b = (0, I) by clear hA hc hn hih; unfold q_ar; (repeat (first | rw [if_pos (by grind)] | rw [if_neg (by grind)]))]; unfold q_and; rfl); done) | ((unfold q_is; rw [show q_ar I c r b = (0, I) by clear hA hc hn hih; unfold q_ar; (repeat (first | rw [if_pos (by grind)] | rw [if_neg (by grind)]))]; unfold q_and; rfl); done) | (exfalso; clear hA hc hn hih; grind)) (by first | with_reducible rfl | (dsimp only; (unfold q_is; rw [show q_ar I c r b = (0, I) by clear hA hc hn hih; unfold q_ar; (repeat (first | rw [if_pos (by grind)] | rw [if_neg (by grind)]))]; unfold q_and; rfl); done) | ((unfold q_is; rw [show q_ar I c r b = (0, I) by clear hA hc hn hih; unfold q_ar; (repeat (first | rw [if_pos (by grind)] | rw [if_neg (by grind)]))]; unfold q_and; rfl); done) | (exfalso; clear hA hc hn hih; grind)) (by first | with_reducible rfl | (dsimp only; (unfold q_is; rw [show q_ar I c r b = (0, I) by clear hA hc hn hih; unfold q_ar; (repeat (first | rw [if_pos (by grind)] | rw [if_neg (by grind)]))]; unfold q_and; rfl); done) | ((unfold q_is; rw [show q_ar I c r b = (0, I) by clear hA hc hn hih; unfold q_ar; (repeat (first | rw [if_pos (by grind)] | rw [if_neg (by grind)]))]; unfold q_and; rfl); done) | (exfalso; clear hA hc hn hih; grind))
  · skip
    refine jr_aload_n d_m_isGood_139 rfl rfl ?_
    refine jr_iload_n d_m_isGood_140 rfl rfl ?_
    refine jv_V1r d_m_isGood_141 l_m_93 k_mC_isLabel ⟨Nat.le_of_ble_eq_true rfl, Nat.le_of_ble_eq_true rfl⟩ rfl rfl (Nat.le_of_ble_eq_true rfl) (ct_mC_isLabel hc hn) (by first | decide | exact Nat.zero_le _ | (dsimp only; omega) | (dsimp only; clear hA hc hn hih; grind)) (by first | decide | exact Nat.zero_le _ | (dsimp only; omega) | (dsimp only; clear hA hc hn hih; grind)) ?_
    refine jr_if_ne (tgt := 149) d_m_isGood_144 (by decide) (fun c144 => ?_) (fun c144 => ?_)
    · skip
      refine jr_aload_n d_m_isGood_149 rfl rfl ?_
      refine jr_iload_n d_m_isGood_150 rfl rfl ?_
      refine jv_V1r d_m_isGood_151 l_m_96 k_mC_isTaker ⟨Nat.le_of_ble_eq_true rfl, Nat.le_of_ble_eq_true rfl⟩ rfl rfl (Nat.le_of_ble_eq_true rfl) (ct_mC_isTaker hc hn) (by first | decide | exact Nat.zero_le _ | (dsimp only; omega) | (dsimp only; clear hA hc hn hih; grind)) (by first | decide | exact Nat.zero_le _ | (dsimp only; omega) | (dsimp only; clear hA hc hn hih; grind)) ?_
      refine jr_if_eq (tgt := 178) d_m_isGood_154 (by decide) (fun c154 => ?_) (fun c154 => ?_)
      · skip
        refine jr_aload_n d_m_isGood_178 rfl rfl ?_
        refine jr_iload_n d_m_isGood_179 rfl rfl ?_
        refine jv_V1r d_m_isGood_180 l_m_93 k_mC_isLabel ⟨Nat.le_of_ble_eq_true rfl, Nat.le_of_ble_eq_true rfl⟩ rfl rfl (Nat.le_of_ble_eq_true rfl) (ct_mC_isLabel hc hn) (by first | decide | exact Nat.zero_le _ | (dsimp only; omega) | (dsimp only; clear hA hc hn hih; grind)) (by first | decide | exact Nat.zero_le _ | (dsimp only; omega) | (dsimp only; clear hA hc hn hih; grind)) ?_
        refine jr_if_eq (tgt := 204) d_m_isGood_183 (by decide) (fun c183 => ?_) (fun c183 => ?_)
        · skip
          exact absurd c183 c144
        · skip
          refine jr_iload_n d_m_isGood_186 rfl rfl ?_
          refine jr_if_eq (tgt := 199) d_m_isGood_187 (by decide) (fun c187 => ?_) (fun c187 => ?_)
          · skip
            refine jr_aload_n d_m_isGood_199 rfl rfl ?_
            refine jr_iconst (v := 0) d_m_isGood_200 (by decide) ?_
            refine jr_puti d_m_isGood_201 f_m_84 (Or.inl rfl) rfl ?_
            (have harr : q_ar I c r b = (1, (jc_up I (10, 0, 0) 8 0)) := by clear hA hc hn hih; unfold q_ar; (repeat (first | rw [if_pos (by grind)] | rw [if_neg (by grind)])))
            refine jr_aload_n d_m_isGood_204 rfl rfl ?_
            refine jr_aload_n d_m_isGood_205 rfl rfl ?_
            refine jr_aload_n d_m_isGood_206 rfl rfl ?_
            refine jr_getr d_m_isGood_207 f_m_59 rfl rfl ?_
            try simp only [jc_up_s, jc_up_k, jc_up_t, jc_cl_s, jc_cl_t, ne_eq, Nat.reduceEqDiff, not_false_eq_true, Nat.reduceAdd]
            first | rw [g2] | rw [g4] | rw [g5] | rw [g7] | rw [g8] | rw [g9] | rw [g10] | rw [m7] | skip
            refine jr_iload_n d_m_isGood_210 rfl rfl ?_
            refine jr_iald d_m_isGood_211 rfl rfl rfl (jinv (by rw [jle, a1, j0I]; omega) (by rw [a3]; show r < 60; omega)) ?_
            try simp only [jc_up_s, jc_up_k, jc_up_t, jc_cl_s, jc_cl_t, ne_eq, Nat.reduceEqDiff, not_false_eq_true, Nat.reduceAdd]
            rw [a3]
            refine jr_aload_n d_m_isGood_212 rfl rfl ?_
            refine jr_getr d_m_isGood_213 f_m_62 rfl rfl ?_
            try simp only [jc_up_s, jc_up_k, jc_up_t, jc_cl_s, jc_cl_t, ne_eq, Nat.reduceEqDiff, not_false_eq_true, Nat.reduceAdd]
            first | rw [g2] | rw [g4] | rw [g5] | rw [g7] | rw [g8] | rw [g9] | rw [g10] | rw [m7] | skip
            refine jr_iload_n d_m_isGood_216 rfl rfl ?_
            refine jr_iald d_m_isGood_217 rfl rfl rfl (jinv (by rw [jle, a1, j0I]; omega) (by rw [a3]; show r < 60; omega)) ?_
            try simp only [jc_up_s, jc_up_k, jc_up_t, jc_cl_s, jc_cl_t, ne_eq, Nat.reduceEqDiff, not_false_eq_true, Nat.reduceAdd]
            rw [a3]
            refine jv_V3r d_m_isGood_218 l_m_99 k_m_isGoodStep ⟨Nat.le_of_ble_eq_true rfl, Nat.le_of_ble_eq_true rfl⟩ rfl rfl (Nat.le_of_ble_eq_true rfl) (ct_m_isGoodStep (by first | with_reducible exact hA | with_reducible exact qE_8.A hA | with_reducible exact (qE_51.tr qE_8).A hA) (by first | with_reducible exact hk | with_reducible exact qk_up hk (by decide) (by decide) | with_reducible exact qk_up (qk_51 hk) (by decide) (by decide)) hc (by first | with_reducible exact hn | with_reducible exact qE_8.n hn | with_reducible exact (qE_51.tr qE_8).n hn) hop.1 hop.2) (by first | decide | exact Nat.zero_le _ | (dsimp only; omega) | (dsimp only; clear hA hc hn hih; grind)) (by first | decide | exact Nat.zero_le _ | (dsimp only; omega) | (dsimp only; clear hA hc hn hih; grind)) ?_
            refine jr_if_ne (tgt := 226) d_m_isGood_221 (by decide) (fun c221 => ?_) (fun c221 => ?_)
            · skip
              refine jr_iinc d_m_isGood_226 rfl jinc1 ?_
              refine jr_goto (tgt := 103) d_m_isGood_229 (by decide) ?_
              (have hq1 : q_and (q_and (1, (jc_up I (10, 0, 0) 8 0)) (fun J => q_gs J c (I (41, c, 0) r) (I (42, c, 0) r))) (fun J => q_gl c m (r + 1) J) = q_gl c m (r + 1) (q_gs (jc_up I (10, 0, 0) 8 0) c (I (41, c, 0) r) (I (42, c, 0) r)).2 := by unfold q_and; dsimp only; rw [if_neg (show ¬ (1 : Int32) = 0 by decide)]; exact if_neg c221); unfold q_is; rw [harr, hq1]; exact hih _ ((qE_8 (I := I) (v := 0)).tr qE_gs) (qk.gs (qk_up hk (v := 0) (by decide) (by decide)))
            · skip
              refine jr_iconst (v := 0) d_m_isGood_224 (by decide) ?_
              exact jr_retX (v := some _) d_m_isGood_225 (by first | exact Nat.le_refl _ | exact Nat.zero_le _ | (dsimp only; omega)) (by first | exact Nat.le_refl _ | exact Nat.zero_le _ | (dsimp only; omega)) (by first | with_reducible rfl | (dsimp only; (unfold q_is; rw [harr]; unfold q_and; dsimp only; rw [if_neg (show ¬ (1 : Int32) = 0 by decide), if_pos c221]); done) | ((unfold q_is; rw [harr]; unfold q_and; dsimp only; rw [if_neg (show ¬ (1 : Int32) = 0 by decide), if_pos c221]); done) | (exfalso; clear hA hc hn hih; grind)) (by first | with_reducible rfl | (dsimp only; (unfold q_is; rw [harr]; unfold q_and; dsimp only; rw [if_neg (show ¬ (1 : Int32) = 0 by decide), if_pos c221]); done) | ((unfold q_is; rw [harr]; unfold q_and; dsimp only; rw [if_neg (show ¬ (1 : Int32) = 0 by decide), if_pos c221]); done) | (exfalso; clear hA hc hn hih; grind)) (by first | with_reducible rfl | (dsimp only; (unfold q_is; rw [harr]; unfold q_and; dsimp only; rw [if_neg (show ¬ (1 : Int32) = 0 by decide), if_pos c221]); done) | ((unfold q_is; rw [harr]; unfold q_and; dsimp only; rw [if_neg (show ¬ (1 : Int32) = 0 by decide), if_pos c221]); done) | (exfalso; clear hA hc hn hih; grind)) (by first | with_reducible rfl | (dsimp only; (unfold q_is; rw [harr]; unfold q_and; dsimp only; rw [if_neg (show ¬ (1 : Int32) = 0 by decide), if_pos c221]); done) | ((unfold q_is; rw [harr]; unfold q_and; dsimp only; rw [if_neg (show ¬ (1 : Int32) = 0 by decide), if_pos c221]); done) | (exfalso; clear hA hc hn hih; grind))
          · skip
            exact absurd c136 c187
      · skip
        refine jr_iload_n d_m_isGood_157 rfl rfl ?_
        refine jr_if_eq (tgt := 163) d_m_isGood_158 (by decide) (fun c158 => ?_) (fun c158 => ?_)
        · skip
          refine jr_aload_n d_m_isGood_163 rfl rfl ?_
          refine jr_getr d_m_isGood_164 f_m_26 rfl rfl ?_
          first | rw [g2] | rw [g4] | rw [g5] | rw [g7] | rw [g8] | rw [g9] | rw [g10] | rw [m7] | skip
          refine jr_iconst (v := 0) d_m_isGood_167 (by decide) ?_
          refine jr_iconst (v := 2) d_m_isGood_168 (by decide) ?_
          refine jr_iast d_m_isGood_169 rfl rfl rfl (jin (m := 12) (by decide) (by decide) (by decide)) ?_
          rw [j00]
          refine jr_aload_n d_m_isGood_170 rfl rfl ?_
          refine jr_iconst (v := 1) d_m_isGood_171 (by decide) ?_
          refine jr_puti d_m_isGood_172 f_m_84 (Or.inl rfl) rfl ?_
          refine jr_goto (tgt := 204) d_m_isGood_175 (by decide) ?_
          (have harr : q_ar I c r b = (1, (jc_up (jc_up I (51, 0, 0) 0 2) (10, 0, 0) 8 1)) := by clear hA hc hn hih; unfold q_ar; (repeat (first | rw [if_pos (by grind)] | rw [if_neg (by grind)])))
          refine jr_aload_n d_m_isGood_204 rfl rfl ?_
          refine jr_aload_n d_m_isGood_205 rfl rfl ?_
          refine jr_aload_n d_m_isGood_206 rfl rfl ?_
          refine jr_getr d_m_isGood_207 f_m_59 rfl rfl ?_
          try simp only [jc_up_s, jc_up_k, jc_up_t, jc_cl_s, jc_cl_t, ne_eq, Nat.reduceEqDiff, not_false_eq_true, Nat.reduceAdd]
          first | rw [g2] | rw [g4] | rw [g5] | rw [g7] | rw [g8] | rw [g9] | rw [g10] | rw [m7] | skip
          refine jr_iload_n d_m_isGood_210 rfl rfl ?_
          refine jr_iald d_m_isGood_211 rfl rfl rfl (jinv (by rw [jle, a1, j0I]; omega) (by rw [a3]; show r < 60; omega)) ?_
          try simp only [jc_up_s, jc_up_k, jc_up_t, jc_cl_s, jc_cl_t, ne_eq, Nat.reduceEqDiff, not_false_eq_true, Nat.reduceAdd]
          rw [a3]
          refine jr_aload_n d_m_isGood_212 rfl rfl ?_
          refine jr_getr d_m_isGood_213 f_m_62 rfl rfl ?_
          try simp only [jc_up_s, jc_up_k, jc_up_t, jc_cl_s, jc_cl_t, ne_eq, Nat.reduceEqDiff, not_false_eq_true, Nat.reduceAdd]
          first | rw [g2] | rw [g4] | rw [g5] | rw [g7] | rw [g8] | rw [g9] | rw [g10] | rw [m7] | skip
          refine jr_iload_n d_m_isGood_216 rfl rfl ?_
          refine jr_iald d_m_isGood_217 rfl rfl rfl (jinv (by rw [jle, a1, j0I]; omega) (by rw [a3]; show r < 60; omega)) ?_
          try simp only [jc_up_s, jc_up_k, jc_up_t, jc_cl_s, jc_cl_t, ne_eq, Nat.reduceEqDiff, not_false_eq_true, Nat.reduceAdd]
          rw [a3]
          refine jv_V3r d_m_isGood_218 l_m_99 k_m_isGoodStep ⟨Nat.le_of_ble_eq_true rfl, Nat.le_of_ble_eq_true rfl⟩ rfl rfl (Nat.le_of_ble_eq_true rfl) (ct_m_isGoodStep (by first | with_reducible exact hA | with_reducible exact qE_8.A hA | with_reducible exact (qE_51.tr qE_8).A hA) (by first | with_reducible exact hk | with_reducible exact qk_up hk (by decide) (by decide) | with_reducible exact qk_up (qk_51 hk) (by decide) (by decide)) hc (by first | with_reducible exact hn | with_reducible exact qE_8.n hn | with_reducible exact (qE_51.tr qE_8).n hn) hop.1 hop.2) (by first | decide | exact Nat.zero_le _ | (dsimp only; omega) | (dsimp only; clear hA hc hn hih; grind)) (by first | decide | exact Nat.zero_le _ | (dsimp only; omega) | (dsimp only; clear hA hc hn hih; grind)) ?_
          refine jr_if_ne (tgt := 226) d_m_isGood_221 (by decide) (fun c221 => ?_) (fun c221 => ?_)
          · skip
            refine jr_iinc d_m_isGood_226 rfl jinc1 ?_
            refine jr_goto (tgt := 103) d_m_isGood_229 (by decide) ?_
            (have hq1 : q_and (q_and (1, (jc_up (jc_up I (51, 0, 0) 0 2) (10, 0, 0) 8 1)) (fun J => q_gs J c (I (41, c, 0) r) (I (42, c, 0) r))) (fun J => q_gl c m (r + 1) J) = q_gl c m (r + 1) (q_gs (jc_up (jc_up I (51, 0, 0) 0 2) (10, 0, 0) 8 1) c (I (41, c, 0) r) (I (42, c, 0) r)).2 := by unfold q_and; dsimp only; rw [if_neg (show ¬ (1 : Int32) = 0 by decide)]; exact if_neg c221); unfold q_is; rw [harr, hq1]; exact hih _ (((qE_51 (I := I) (i := 0) (v := 2)).tr (qE_8 (v := 1))).tr qE_gs) (qk.gs (qk_up (v := 1) (qk_51 hk) (by decide) (by decide)))
          · skip
            refine jr_iconst (v := 0) d_m_isGood_224 (by decide) ?_
            exact jr_retX (v := some _) d_m_isGood_225 (by first | exact Nat.le_refl _ | exact Nat.zero_le _ | (dsimp only; omega)) (by first | exact Nat.le_refl _ | exact Nat.zero_le _ | (dsimp only; omega)) (by first | with_reducible rfl | (dsimp only; (unfold q_is; rw [harr]; unfold q_and; dsimp only; rw [if_neg (show ¬ (1 : Int32) = 0 by decide), if_pos c221]); done) | ((unfold q_is; rw [harr]; unfold q_and; dsimp only; rw [if_neg (show ¬ (1 : Int32) = 0 by decide), if_pos c221]); done) | (exfalso; clear hA hc hn hih; grind)) (by first | with_reducible rfl | (dsimp only; (unfold q_is; rw [harr]; unfold q_and; dsimp only; rw [if_neg (show ¬ (1 : Int32) = 0 by decide), if_pos c221]); done) | ((unfold q_is; rw [harr]; unfold q_and; dsimp only; rw [if_neg (show ¬ (1 : Int32) = 0 by decide), if_pos c221]); done) | (exfalso; clear hA hc hn hih; grind)) (by first | with_reducible rfl | (dsimp only; (unfold q_is; rw [harr]; unfold q_and; dsimp only; rw [if_neg (show ¬ (1 : Int32) = 0 by decide), if_pos c221]); done) | ((unfold q_is; rw [harr]; unfold q_and; dsimp only; rw [if_neg (show ¬ (1 : Int32) = 0 by decide), if_pos c221]); done) | (exfalso; clear hA hc hn hih; grind)) (by first | with_reducible rfl | (dsimp only; (unfold q_is; rw [harr]; unfold q_and; dsimp only; rw [if_neg (show ¬ (1 : Int32) = 0 by decide), if_pos c221]); done) | ((unfold q_is; rw [harr]; unfold q_and; dsimp only; rw [if_neg (show ¬ (1 : Int32) = 0 by decide), if_pos c221]); done) | (exfalso; clear hA hc hn hih; grind))
        · skip
          exact absurd c136 c158
    · skip
      refine jr_iconst (v := 0) d_m_isGood_147 (by decide) ?_
      exact jr_retX (v := some _) d_m_isGood_148 (by first | exact Nat.le_refl _ | exact Nat.zero_le _ | (dsimp only; omega)) (by first | exact Nat.le_refl _ | exact Nat.zero_le _ | (dsimp only; omega)) (by first | with_reducible rfl | (dsimp only; (unfold q_is; rw [show q_ar I c r b = (0, I) by clear hA hc hn hih; unfold q_ar; (repeat (first | rw [if_pos (by grind)] | rw [if_neg (by grind)]))]; unfold q_and; rfl); done) | ((unfold q_is; rw [show q_ar I c r b = (0, I) by clear hA hc hn hih; unfold q_ar; (repeat (first | rw [if_pos (by grind)] | rw [if_neg (by grind)]))]; unfold q_and; rfl); done) | (exfalso; clear hA hc hn hih; grind)) (by first | with_reducible rfl | (dsimp only; (unfold q_is; rw [show q_ar I c r b = (0, I) by clear hA hc hn hih; unfold q_ar; (repeat (first | rw [if_pos (by grind)] | rw [if_neg (by grind)]))]; unfold q_and; rfl); done) | ((unfold q_is; rw [show q_ar I c r b = (0, I) by clear hA hc hn hih; unfold q_ar; (repeat (first | rw [if_pos (by grind)] | rw [if_neg (by grind)]))]; unfold q_and; rfl); done) | (exfalso; clear hA hc hn hih; grind)) (by first | with_reducible rfl | (dsimp only; (unfold q_is; rw [show q_ar I c r b = (0, I) by clear hA hc hn hih; unfold q_ar; (repeat (first | rw [if_pos (by grind)] | rw [if_neg (by grind)]))]; unfold q_and; rfl); done) | ((unfold q_is; rw [show q_ar I c r b = (0, I) by clear hA hc hn hih; unfold q_ar; (repeat (first | rw [if_pos (by grind)] | rw [if_neg (by grind)]))]; unfold q_and; rfl); done) | (exfalso; clear hA hc hn hih; grind)) (by first | with_reducible rfl | (dsimp only; (unfold q_is; rw [show q_ar I c r b = (0, I) by clear hA hc hn hih; unfold q_ar; (repeat (first | rw [if_pos (by grind)] | rw [if_neg (by grind)]))]; unfold q_and; rfl); done) | ((unfold q_is; rw [show q_ar I c r b = (0, I) by clear hA hc hn hih; unfold q_ar; (repeat (first | rw [if_pos (by grind)] | rw [if_neg (by grind)]))]; unfold q_and; rfl); done) | (exfalso; clear hA hc hn hih; grind))
theorem lp_m_isGood103 {O : jc_O} {live : jc_L → Prop} {cn c : Nat} (hc : qc O c) : ∀ (m : Nat) (I : jc_I) (r : Nat) (u : Option jc_V), qA I O live cn → qk I O → qn I c → (∀ i, i < (I (11, c, 0) 6).toNatClampNeg → 0 ≤ I (41, c, 0) i ∧ I (41, c, 0) i ≤ 26) → r + m = (I (11, c, 0) 6).toNatClampNeg → jc_R y_m_isGood 103 [some (.inr (some (10, 0, 0))), some (.inr (some (11, c, 0))), some (.inl (Int32.ofNat r)), u] [] I O live 0 0 (some (.inl (q_gl c m r I).1), (q_gl c m r I).2, O, live, 0, 0) := by
  obtain ⟨g2, g4, g5, g7, g8, g9, g10⟩ := id hc
  intro m
  induction m with
  | zero =>
    intro I r u hA hk hn0 hop hm
    (have hn := hn0); obtain ⟨n1, n2, n3, n4, n5, n6⟩ := id hn; (have a2 := jNI n3); (have a4 := jle.mp n4); rw [show (60 : Int32).toInt = 60 from by decide] at a4; (have a1 := jofI (n := r) (by omega)); (have a3 := jofN (n := r) (by omega))
    refine jr_iload_n d_m_isGood_103 rfl rfl ?_
    refine jr_aload_n d_m_isGood_104 rfl rfl ?_
    refine jr_geti d_m_isGood_105 f_m_56 rfl ?_
    refine jr_icmp_ge (tgt := 232) d_m_isGood_108 (by decide) (fun c108 => ?_) (fun c108 => ?_)
    · skip
      refine jr_iconst (v := 1) d_m_isGood_232 (by decide) ?_
      exact jr_retX (v := some _) d_m_isGood_233 (by first | exact Nat.le_refl _ | exact Nat.zero_le _ | (dsimp only; omega)) (by first | exact Nat.le_refl _ | exact Nat.zero_le _ | (dsimp only; omega)) (by first | with_reducible rfl | (dsimp only; (rw [q_gl]); done) | ((rw [q_gl]); done) | (exfalso; grind)) (by first | with_reducible rfl | (dsimp only; (rw [q_gl]); done) | ((rw [q_gl]); done) | (exfalso; grind)) (by first | with_reducible rfl | (dsimp only; (rw [q_gl]); done) | ((rw [q_gl]); done) | (exfalso; grind)) (by first | with_reducible rfl | (dsimp only; (rw [q_gl]); done) | ((rw [q_gl]); done) | (exfalso; grind))
    · skip
      exfalso; rw [jle, a1] at c108; omega
  | succ m ih =>
    intro I r u hA hk hn0 hop hm
    (have hn := hn0); obtain ⟨n1, n2, n3, n4, n5, n6⟩ := id hn; (have a2 := jNI n3); (have a4 := jle.mp n4); rw [show (60 : Int32).toInt = 60 from by decide] at a4; (have a1 := jofI (n := r) (by omega)); (have a3 := jofN (n := r) (by omega))
    refine jr_iload_n d_m_isGood_103 rfl rfl ?_
    refine jr_aload_n d_m_isGood_104 rfl rfl ?_
    refine jr_geti d_m_isGood_105 f_m_56 rfl ?_
    refine jr_icmp_ge (tgt := 232) d_m_isGood_108 (by decide) (fun c108 => ?_) (fun c108 => ?_)
    · skip
      exfalso; rw [jle, a1] at c108; omega
    · skip
      refine jr_iload_n d_m_isGood_111 rfl rfl ?_
      refine jr_if_eq (tgt := 129) d_m_isGood_112 (by decide) (fun c112 => ?_) (fun c112 => ?_)
      · skip
        have hr0 : r = 0 := by have h9 := congrArg Int32.toInt c112; rw [a1, j0I] at h9; omega
        refine jr_iconst (v := 1) d_m_isGood_129 (by decide) ?_
        refine jr_goto (tgt := 134) d_m_isGood_130 (by decide) ?_
        refine jr_istore_n d_m_isGood_134 rfl (Nat.le_of_ble_eq_true rfl) ?_
        rw [q_gl, show q_b I c r = 1 by unfold q_b; rw [if_pos (by clear ih hA; grind)]]; exact lp_m_isGood135 hA hk hc hn (by omega) (hop r (by omega)) (fun J hE hk2 => by have e := ih J (r + 1) (some (.inl 1)) (hE.A hA) hk2 (hE.n hn) (fun i hi => by rw [hE _ i (by simp) (by simp)]; exact hop i (by rw [hE _ 6 (by simp) (by simp)] at hi; exact hi)) (by rw [hE _ 6 (by simp) (by simp)]; omega); rw [← jof1 (by omega)] at e; exact e)
      · skip
        (have hr0 : r ≠ 0 := fun h9 => c112 (by rw [h9]; rfl)); (have hs9 : Int32.ofNat r - 1 = Int32.ofNat (r - 1) := by rw [show r = r - 1 + 1 from by omega, jofs (by omega)]; rfl)
        refine jr_aload_n d_m_isGood_115 rfl rfl ?_
        refine jr_getr d_m_isGood_116 f_m_59 rfl rfl ?_
        first | rw [g2] | rw [g4] | rw [g5] | rw [g7] | rw [g8] | rw [g9] | rw [g10] | skip
        refine jr_iload_n d_m_isGood_119 rfl rfl ?_
        refine jr_iconst (v := 1) d_m_isGood_120 (by decide) ?_
        refine jr_isub d_m_isGood_121 ?_
        refine jr_iald d_m_isGood_122 rfl rfl rfl (jinv (by rw [hs9, jle, jofI (by omega), j0I]; omega) (by rw [hs9, jofN (by omega)]; show r - 1 < 60; omega)) ?_
        rw [hs9, jofN (by omega)]
        refine jv_S1r d_m_isGood_123 l_m_90 k_m_isLeaving ⟨Nat.le_of_ble_eq_true rfl, Nat.le_of_ble_eq_true rfl⟩ (Nat.le_of_ble_eq_true rfl) (ct_m_isLeaving) (by first | decide | exact Nat.zero_le _ | (dsimp only; omega) | (dsimp only; grind)) (by first | decide | exact Nat.zero_le _ | (dsimp only; omega) | (dsimp only; grind)) ?_
        refine jr_if_ne (tgt := 133) d_m_isGood_126 (by decide) (fun c126 => ?_) (fun c126 => ?_)
        · skip
          refine jr_iconst (v := 0) d_m_isGood_133 (by decide) ?_
          refine jr_istore_n d_m_isGood_134 rfl (Nat.le_of_ble_eq_true rfl) ?_
          rw [q_gl, show q_b I c r = 0 by unfold q_b; rw [if_neg (by clear ih hA; grind)]]; exact lp_m_isGood135 hA hk hc hn (by omega) (hop r (by omega)) (fun J hE hk2 => by have e := ih J (r + 1) (some (.inl 0)) (hE.A hA) hk2 (hE.n hn) (fun i hi => by rw [hE _ i (by simp) (by simp)]; exact hop i (by rw [hE _ 6 (by simp) (by simp)] at hi; exact hi)) (by rw [hE _ 6 (by simp) (by simp)]; omega); rw [← jof1 (by omega)] at e; exact e)
        · skip
          refine jr_iconst (v := 1) d_m_isGood_129 (by decide) ?_
          refine jr_goto (tgt := 134) d_m_isGood_130 (by decide) ?_
          refine jr_istore_n d_m_isGood_134 rfl (Nat.le_of_ble_eq_true rfl) ?_
          rw [q_gl, show q_b I c r = 1 by unfold q_b; rw [if_pos (by clear ih hA; grind)]]; exact lp_m_isGood135 hA hk hc hn (by omega) (hop r (by omega)) (fun J hE hk2 => by have e := ih J (r + 1) (some (.inl 1)) (hE.A hA) hk2 (hE.n hn) (fun i hi => by rw [hE _ i (by simp) (by simp)]; exact hop i (by rw [hE _ 6 (by simp) (by simp)] at hi; exact hi)) (by rw [hE _ 6 (by simp) (by simp)]; omega); rw [← jof1 (by omega)] at e; exact e)
def q_g2 (I : jc_I) (c : Nat) : Int32 × jc_I := q_gl c (I (11, c, 0) 6).toNatClampNeg 0 (jc_up I (10, 0, 0) 8 0)
def q_good (I : jc_I) (c : Nat) : Int32 × jc_I := if I (11, c, 0) 0 ≤ I (11, c, 0) 3 ∧ I (11, c, 0) 6 ≠ 0 ∧ (I (41, c, 0) (I (11, c, 0) 6 - 1).toNatClampNeg = 11 ∨ I (41, c, 0) (I (11, c, 0) 6 - 1).toNatClampNeg = 19 ∨ I (41, c, 0) (I (11, c, 0) 6 - 1).toNatClampNeg = 22) then (if q_rw I c (I (11, c, 0) 11).toNatClampNeg 0 = 0 then (0, I) else q_g2 I c) else (0, I)
theorem lp_m_isGood39 {I : jc_I} {O : jc_O} {live : jc_L → Prop} {cn c : Nat} (hA : qA I O live cn) (hk : qk I O) (hc : qc O c) (hn : qn I c) (hop : ∀ i, i < (I (11, c, 0) 6).toNatClampNeg → 0 ≤ I (41, c, 0) i ∧ I (41, c, 0) i ≤ 26) : ∀ (m r : Nat), r + m = (I (11, c, 0) 11).toNatClampNeg → jc_R y_m_isGood 39 [some (.inr (some (10, 0, 0))), some (.inr (some (11, c, 0))), some (.inl (Int32.ofNat r)), none] [] I O live 0 0 (some (.inl (if q_rw I c m r = 0 then (0, I) else q_g2 I c).1), (if q_rw I c m r = 0 then (0, I) else q_g2 I c).2, O, live, 0, 0) := by
  obtain ⟨g2, g4, g5, g7, g8, g9, g10⟩ := id hc
  obtain ⟨n1, n2, n3, n4, n5, n6⟩ := id hn
  intro m
  induction m with
  | zero =>
    intro r hm
    (have a2 := jNI n5); (have a4 := jle.mp n6); rw [show (20 : Int32).toInt = 20 from by decide] at a4; (have a1 := jofI (n := r) (by omega)); (have a3 := jofN (n := r) (by omega))
    refine jr_iload_n d_m_isGood_39 rfl rfl ?_
    refine jr_aload_n d_m_isGood_40 rfl rfl ?_
    refine jr_geti d_m_isGood_41 f_m_69 rfl ?_
    refine jr_icmp_ge (tgt := 96) d_m_isGood_44 (by decide) (fun c44 => ?_) (fun c44 => ?_)
    · skip
      refine jr_aload_n d_m_isGood_96 rfl rfl ?_
      refine jr_iconst (v := 0) d_m_isGood_97 (by decide) ?_
      refine jr_puti d_m_isGood_98 f_m_84 (Or.inl rfl) rfl ?_
      refine jr_iconst (v := 0) d_m_isGood_101 (by decide) ?_
      refine jr_istore_n d_m_isGood_102 rfl (Nat.le_of_ble_eq_true rfl) ?_
      exact (by have e := lp_m_isGood103 (live := live) (cn := cn) hc (I (11, c, 0) 6).toNatClampNeg (jc_up I (10, 0, 0) 8 0) 0 none (qE_8.A hA) (qk_up hk (by decide) (by decide)) (qE_8.n hn) (fun i hi => by rw [qE_8 _ i (by simp) (by simp)]; exact hop i (by rw [qE_8 _ 6 (by simp) (by simp)] at hi; exact hi)) (by rw [qE_8 _ 6 (by simp) (by simp)]; omega); rw [q_rw, if_neg (by decide)]; exact e)
    · skip
      exfalso; rw [jle, a1] at c44; omega
  | succ m ih =>
    intro r hm
    (have a2 := jNI n5); (have a4 := jle.mp n6); rw [show (20 : Int32).toInt = 20 from by decide] at a4; (have a1 := jofI (n := r) (by omega)); (have a3 := jofN (n := r) (by omega))
    refine jr_iload_n d_m_isGood_39 rfl rfl ?_
    refine jr_aload_n d_m_isGood_40 rfl rfl ?_
    refine jr_geti d_m_isGood_41 f_m_69 rfl ?_
    refine jr_icmp_ge (tgt := 96) d_m_isGood_44 (by decide) (fun c44 => ?_) (fun c44 => ?_)
    · skip
      exfalso; rw [jle, a1] at c44; omega
    · skip
      refine jr_aload_n d_m_isGood_47 rfl rfl ?_
      refine jr_getr d_m_isGood_48 f_m_72 rfl rfl ?_
      first | rw [g2] | rw [g4] | rw [g5] | rw [g7] | rw [g8] | rw [g9] | rw [g10] | skip
      refine jr_iload_n d_m_isGood_51 rfl rfl ?_
      refine jr_iald d_m_isGood_52 rfl rfl rfl (jinv (by rw [jle, a1, j0I]; omega) (by rw [a3]; show r < 20; omega)) ?_
      rw [a3]
      refine jr_aload_n d_m_isGood_53 rfl rfl ?_
      refine jr_getr d_m_isGood_54 f_m_75 rfl rfl ?_
      first | rw [g2] | rw [g4] | rw [g5] | rw [g7] | rw [g8] | rw [g9] | rw [g10] | skip
      refine jr_iload_n d_m_isGood_57 rfl rfl ?_
      refine jr_iald d_m_isGood_58 rfl rfl rfl (jinv (by rw [jle, a1, j0I]; omega) (by rw [a3]; show r < 20; omega)) ?_
      rw [a3]
      refine jr_icmp_ge (tgt := 88) d_m_isGood_59 (by decide) (fun c59 => ?_) (fun c59 => ?_)
      · skip
        refine jr_iconst (v := 0) d_m_isGood_88 (by decide) ?_
        exact jr_retX (v := some _) d_m_isGood_89 (by first | exact Nat.le_refl _ | exact Nat.zero_le _ | (dsimp only; omega)) (by first | exact Nat.le_refl _ | exact Nat.zero_le _ | (dsimp only; omega)) (by first | with_reducible rfl | (dsimp only; (rw [q_rw, if_pos (show I (44, c, 0) r ≤ I (43, c, 0) r ∨ I (11, c, 0) 6 < I (44, c, 0) r ∨ I (11, c, 0) 6 ≤ I (45, c, 0) r by clear ih hA hop; grind), if_pos rfl]); done) | ((rw [q_rw, if_pos (show I (44, c, 0) r ≤ I (43, c, 0) r ∨ I (11, c, 0) 6 < I (44, c, 0) r ∨ I (11, c, 0) 6 ≤ I (45, c, 0) r by clear ih hA hop; grind), if_pos rfl]); done) | (exfalso; clear ih hA hop; grind)) (by first | with_reducible rfl | (dsimp only; (rw [q_rw, if_pos (show I (44, c, 0) r ≤ I (43, c, 0) r ∨ I (11, c, 0) 6 < I (44, c, 0) r ∨ I (11, c, 0) 6 ≤ I (45, c, 0) r by clear ih hA hop; grind), if_pos rfl]); done) | ((rw [q_rw, if_pos (show I (44, c, 0) r ≤ I (43, c, 0) r ∨ I (11, c, 0) 6 < I (44, c, 0) r ∨ I (11, c, 0) 6 ≤ I (45, c, 0) r by clear ih hA hop; grind), if_pos rfl]); done) | (exfalso; clear ih hA hop; grind)) (by first | with_reducible rfl | (dsimp only; (rw [q_rw, if_pos (show I (44, c, 0) r ≤ I (43, c, 0) r ∨ I (11, c, 0) 6 < I (44, c, 0) r ∨ I (11, c, 0) 6 ≤ I (45, c, 0) r by clear ih hA hop; grind), if_pos rfl]); done) | ((rw [q_rw, if_pos (show I (44, c, 0) r ≤ I (43, c, 0) r ∨ I (11, c, 0) 6 < I (44, c, 0) r ∨ I (11, c, 0) 6 ≤ I (45, c, 0) r by clear ih hA hop; grind), if_pos rfl]); done) | (exfalso; clear ih hA hop; grind)) (by first | with_reducible rfl | (dsimp only; (rw [q_rw, if_pos (show I (44, c, 0) r ≤ I (43, c, 0) r ∨ I (11, c, 0) 6 < I (44, c, 0) r ∨ I (11, c, 0) 6 ≤ I (45, c, 0) r by clear ih hA hop; grind), if_pos rfl]); done) | ((rw [q_rw, if_pos (show I (44, c, 0) r ≤ I (43, c, 0) r ∨ I (11, c, 0) 6 < I (44, c, 0) r ∨ I (11, c, 0) 6 ≤ I (45, c, 0) r by clear ih hA hop; grind), if_pos rfl]); done) | (exfalso; clear ih hA hop; grind))
      · skip
        refine jr_aload_n d_m_isGood_62 rfl rfl ?_
        refine jr_getr d_m_isGood_63 f_m_75 rfl rfl ?_
        first | rw [g2] | rw [g4] | rw [g5] | rw [g7] | rw [g8] | rw [g9] | rw [g10] | skip
        refine jr_iload_n d_m_isGood_66 rfl rfl ?_
        refine jr_iald d_m_isGood_67 rfl rfl rfl (jinv (by rw [jle, a1, j0I]; omega) (by rw [a3]; show r < 20; omega)) ?_
        rw [a3]
        refine jr_aload_n d_m_isGood_68 rfl rfl ?_
        refine jr_geti d_m_isGood_69 f_m_56 rfl ?_
        refine jr_icmp_gt (tgt := 88) d_m_isGood_72 (by decide) (fun c72 => ?_) (fun c72 => ?_)
        · skip
          refine jr_iconst (v := 0) d_m_isGood_88 (by decide) ?_
          exact jr_retX (v := some _) d_m_isGood_89 (by first | exact Nat.le_refl _ | exact Nat.zero_le _ | (dsimp only; omega)) (by first | exact Nat.le_refl _ | exact Nat.zero_le _ | (dsimp only; omega)) (by first | with_reducible rfl | (dsimp only; (rw [q_rw, if_pos (show I (44, c, 0) r ≤ I (43, c, 0) r ∨ I (11, c, 0) 6 < I (44, c, 0) r ∨ I (11, c, 0) 6 ≤ I (45, c, 0) r by clear ih hA hop; grind), if_pos rfl]); done) | ((rw [q_rw, if_pos (show I (44, c, 0) r ≤ I (43, c, 0) r ∨ I (11, c, 0) 6 < I (44, c, 0) r ∨ I (11, c, 0) 6 ≤ I (45, c, 0) r by clear ih hA hop; grind), if_pos rfl]); done) | (exfalso; clear ih hA hop; grind)) (by first | with_reducible rfl | (dsimp only; (rw [q_rw, if_pos (show I (44, c, 0) r ≤ I (43, c, 0) r ∨ I (11, c, 0) 6 < I (44, c, 0) r ∨ I (11, c, 0) 6 ≤ I (45, c, 0) r by clear ih hA hop; grind), if_pos rfl]); done) | ((rw [q_rw, if_pos (show I (44, c, 0) r ≤ I (43, c, 0) r ∨ I (11, c, 0) 6 < I (44, c, 0) r ∨ I (11, c, 0) 6 ≤ I (45, c, 0) r by clear ih hA hop; grind), if_pos rfl]); done) | (exfalso; clear ih hA hop; grind)) (by first | with_reducible rfl | (dsimp only; (rw [q_rw, if_pos (show I (44, c, 0) r ≤ I (43, c, 0) r ∨ I (11, c, 0) 6 < I (44, c, 0) r ∨ I (11, c, 0) 6 ≤ I (45, c, 0) r by clear ih hA hop; grind), if_pos rfl]); done) | ((rw [q_rw, if_pos (show I (44, c, 0) r ≤ I (43, c, 0) r ∨ I (11, c, 0) 6 < I (44, c, 0) r ∨ I (11, c, 0) 6 ≤ I (45, c, 0) r by clear ih hA hop; grind), if_pos rfl]); done) | (exfalso; clear ih hA hop; grind)) (by first | with_reducible rfl | (dsimp only; (rw [q_rw, if_pos (show I (44, c, 0) r ≤ I (43, c, 0) r ∨ I (11, c, 0) 6 < I (44, c, 0) r ∨ I (11, c, 0) 6 ≤ I (45, c, 0) r by clear ih hA hop; grind), if_pos rfl]); done) | ((rw [q_rw, if_pos (show I (44, c, 0) r ≤ I (43, c, 0) r ∨ I (11, c, 0) 6 < I (44, c, 0) r ∨ I (11, c, 0) 6 ≤ I (45, c, 0) r by clear ih hA hop; grind), if_pos rfl]); done) | (exfalso; clear ih hA hop; grind))
        · skip
          refine jr_aload_n d_m_isGood_75 rfl rfl ?_
          refine jr_getr d_m_isGood_76 f_m_78 rfl rfl ?_
          first | rw [g2] | rw [g4] | rw [g5] | rw [g7] | rw [g8] | rw [g9] | rw [g10] | skip
          refine jr_iload_n d_m_isGood_79 rfl rfl ?_
          refine jr_iald d_m_isGood_80 rfl rfl rfl (jinv (by rw [jle, a1, j0I]; omega) (by rw [a3]; show r < 20; omega)) ?_
          rw [a3]
          refine jr_aload_n d_m_isGood_81 rfl rfl ?_
          refine jr_geti d_m_isGood_82 f_m_56 rfl ?_
          refine jr_icmp_lt (tgt := 90) d_m_isGood_85 (by decide) (fun c85 => ?_) (fun c85 => ?_)
          · skip
            refine jr_iinc d_m_isGood_90 rfl jinc1 ?_
            refine jr_goto (tgt := 39) d_m_isGood_93 (by decide) ?_
            (have hne : ¬ (I (44, c, 0) r ≤ I (43, c, 0) r ∨ I (11, c, 0) 6 < I (44, c, 0) r ∨ I (11, c, 0) 6 ≤ I (45, c, 0) r) := by clear ih hA hop; grind); rw [q_rw, if_neg hne]; exact (by have e := ih (r + 1) (by omega); rw [← jof1 (by omega)] at e; exact e)
          · skip
            refine jr_iconst (v := 0) d_m_isGood_88 (by decide) ?_
            exact jr_retX (v := some _) d_m_isGood_89 (by first | exact Nat.le_refl _ | exact Nat.zero_le _ | (dsimp only; omega)) (by first | exact Nat.le_refl _ | exact Nat.zero_le _ | (dsimp only; omega)) (by first | with_reducible rfl | (dsimp only; (rw [q_rw, if_pos (show I (44, c, 0) r ≤ I (43, c, 0) r ∨ I (11, c, 0) 6 < I (44, c, 0) r ∨ I (11, c, 0) 6 ≤ I (45, c, 0) r by clear ih hA hop; grind), if_pos rfl]); done) | ((rw [q_rw, if_pos (show I (44, c, 0) r ≤ I (43, c, 0) r ∨ I (11, c, 0) 6 < I (44, c, 0) r ∨ I (11, c, 0) 6 ≤ I (45, c, 0) r by clear ih hA hop; grind), if_pos rfl]); done) | (exfalso; clear ih hA hop; grind)) (by first | with_reducible rfl | (dsimp only; (rw [q_rw, if_pos (show I (44, c, 0) r ≤ I (43, c, 0) r ∨ I (11, c, 0) 6 < I (44, c, 0) r ∨ I (11, c, 0) 6 ≤ I (45, c, 0) r by clear ih hA hop; grind), if_pos rfl]); done) | ((rw [q_rw, if_pos (show I (44, c, 0) r ≤ I (43, c, 0) r ∨ I (11, c, 0) 6 < I (44, c, 0) r ∨ I (11, c, 0) 6 ≤ I (45, c, 0) r by clear ih hA hop; grind), if_pos rfl]); done) | (exfalso; clear ih hA hop; grind)) (by first | with_reducible rfl | (dsimp only; (rw [q_rw, if_pos (show I (44, c, 0) r ≤ I (43, c, 0) r ∨ I (11, c, 0) 6 < I (44, c, 0) r ∨ I (11, c, 0) 6 ≤ I (45, c, 0) r by clear ih hA hop; grind), if_pos rfl]); done) | ((rw [q_rw, if_pos (show I (44, c, 0) r ≤ I (43, c, 0) r ∨ I (11, c, 0) 6 < I (44, c, 0) r ∨ I (11, c, 0) 6 ≤ I (45, c, 0) r by clear ih hA hop; grind), if_pos rfl]); done) | (exfalso; clear ih hA hop; grind)) (by first | with_reducible rfl | (dsimp only; (rw [q_rw, if_pos (show I (44, c, 0) r ≤ I (43, c, 0) r ∨ I (11, c, 0) 6 < I (44, c, 0) r ∨ I (11, c, 0) 6 ≤ I (45, c, 0) r by clear ih hA hop; grind), if_pos rfl]); done) | ((rw [q_rw, if_pos (show I (44, c, 0) r ≤ I (43, c, 0) r ∨ I (11, c, 0) 6 < I (44, c, 0) r ∨ I (11, c, 0) 6 ≤ I (45, c, 0) r by clear ih hA hop; grind), if_pos rfl]); done) | (exfalso; clear ih hA hop; grind))
theorem q_gl01 {c : Nat} : ∀ (m r : Nat) (I : jc_I), (q_gl c m r I).1 = 0 ∨ (q_gl c m r I).1 = 1
  | 0, _, _ => Or.inr rfl
  | m + 1, r, I => q_and01 (fun J => q_gl01 m (r + 1) J)
theorem q_good01 {I : jc_I} {c : Nat} : (q_good I c).1 = 0 ∨ (q_good I c).1 = 1 := q01_ite (q01_ite (Or.inl rfl) (q_gl01 _ _ _)) (Or.inl rfl)
theorem ct_m_isGood {I : jc_I} {O : jc_O} {live : jc_L → Prop} {cn c : Nat} (hA : qA I O live cn) (hk : qk I O) (hc : qc O c) (hn : qn I c) (hop : ∀ i, i < (I (11, c, 0) 6).toNatClampNeg → 0 ≤ I (41, c, 0) i ∧ I (41, c, 0) i ≤ 26) : jc_Ct y_m_isGood [.inr (some (10, 0, 0)), .inr (some (11, c, 0))] I O live (some (.inl (q_good I c).1), (q_good I c).2, O, live, 0, 0) := by
  obtain ⟨g2, g4, g5, g7, g8, g9, g10⟩ := id hc
  obtain ⟨n1, n2, n3, n4, n5, n6⟩ := id hn
  refine jc_Ct.of (by decide +kernel) (Or.inr ⟨rfl, q_good01⟩) (Nat.le_of_ble_eq_true rfl) ?_
  refine jr_aload_n d_m_isGood_0 rfl rfl ?_
  refine jr_geti d_m_isGood_1 f_m_50 rfl ?_
  refine jr_aload_n d_m_isGood_4 rfl rfl ?_
  refine jr_geti d_m_isGood_5 f_m_87 rfl ?_
  refine jr_icmp_lt (tgt := 35) d_m_isGood_8 (by decide) (fun c8 => ?_) (fun c8 => ?_)
  · skip
    refine jr_iconst (v := 0) d_m_isGood_35 (by decide) ?_
    exact jr_retX (v := some _) d_m_isGood_36 (by first | exact Nat.le_refl _ | exact Nat.zero_le _ | (dsimp only; omega)) (by first | exact Nat.le_refl _ | exact Nat.zero_le _ | (dsimp only; omega)) (by first | with_reducible rfl | (dsimp only; (unfold q_good; rw [if_neg (by clear hA hop; grind)]); done) | ((unfold q_good; rw [if_neg (by clear hA hop; grind)]); done) | (exfalso; clear hA hop; grind)) (by first | with_reducible rfl | (dsimp only; (unfold q_good; rw [if_neg (by clear hA hop; grind)]); done) | ((unfold q_good; rw [if_neg (by clear hA hop; grind)]); done) | (exfalso; clear hA hop; grind)) (by first | with_reducible rfl | (dsimp only; (unfold q_good; rw [if_neg (by clear hA hop; grind)]); done) | ((unfold q_good; rw [if_neg (by clear hA hop; grind)]); done) | (exfalso; clear hA hop; grind)) (by first | with_reducible rfl | (dsimp only; (unfold q_good; rw [if_neg (by clear hA hop; grind)]); done) | ((unfold q_good; rw [if_neg (by clear hA hop; grind)]); done) | (exfalso; clear hA hop; grind))
  · skip
    refine jr_aload_n d_m_isGood_11 rfl rfl ?_
    refine jr_geti d_m_isGood_12 f_m_56 rfl ?_
    refine jr_if_eq (tgt := 35) d_m_isGood_15 (by decide) (fun c15 => ?_) (fun c15 => ?_)
    · skip
      refine jr_iconst (v := 0) d_m_isGood_35 (by decide) ?_
      exact jr_retX (v := some _) d_m_isGood_36 (by first | exact Nat.le_refl _ | exact Nat.zero_le _ | (dsimp only; omega)) (by first | exact Nat.le_refl _ | exact Nat.zero_le _ | (dsimp only; omega)) (by first | with_reducible rfl | (dsimp only; (unfold q_good; rw [if_neg (by clear hA hop; grind)]); done) | ((unfold q_good; rw [if_neg (by clear hA hop; grind)]); done) | (exfalso; clear hA hop; grind)) (by first | with_reducible rfl | (dsimp only; (unfold q_good; rw [if_neg (by clear hA hop; grind)]); done) | ((unfold q_good; rw [if_neg (by clear hA hop; grind)]); done) | (exfalso; clear hA hop; grind)) (by first | with_reducible rfl | (dsimp only; (unfold q_good; rw [if_neg (by clear hA hop; grind)]); done) | ((unfold q_good; rw [if_neg (by clear hA hop; grind)]); done) | (exfalso; clear hA hop; grind)) (by first | with_reducible rfl | (dsimp only; (unfold q_good; rw [if_neg (by clear hA hop; grind)]); done) | ((unfold q_good; rw [if_neg (by clear hA hop; grind)]); done) | (exfalso; clear hA hop; grind))
    · skip
      refine jr_aload_n d_m_isGood_18 rfl rfl ?_
      refine jr_getr d_m_isGood_19 f_m_59 rfl rfl ?_
      first | rw [g2] | rw [g4] | rw [g5] | rw [g7] | rw [g8] | rw [g9] | rw [g10] | skip
      refine jr_aload_n d_m_isGood_22 rfl rfl ?_
      refine jr_geti d_m_isGood_23 f_m_56 rfl ?_
      refine jr_iconst (v := 1) d_m_isGood_26 (by decide) ?_
      refine jr_isub d_m_isGood_27 ?_
      refine jr_iald d_m_isGood_28 rfl rfl rfl (jin (m := 60) (by decide) (by clear hA hop; grind) (by clear hA hop; grind)) ?_
      refine jv_S1r d_m_isGood_29 l_m_90 k_m_isLeaving ⟨Nat.le_of_ble_eq_true rfl, Nat.le_of_ble_eq_true rfl⟩ (Nat.le_of_ble_eq_true rfl) (ct_m_isLeaving) (by first | decide | exact Nat.zero_le _ | (dsimp only; omega) | (dsimp only; clear hA hop; grind)) (by first | decide | exact Nat.zero_le _ | (dsimp only; omega) | (dsimp only; clear hA hop; grind)) ?_
      refine jr_if_ne (tgt := 37) d_m_isGood_32 (by decide) (fun c32 => ?_) (fun c32 => ?_)
      · skip
        refine jr_iconst (v := 0) d_m_isGood_37 (by decide) ?_
        refine jr_istore_n d_m_isGood_38 rfl (Nat.le_of_ble_eq_true rfl) ?_
        exact (by have e := lp_m_isGood39 hA hk hc hn hop (I (11, c, 0) 11).toNatClampNeg 0 (by omega); unfold q_good; rw [if_pos (by clear hA hop e; grind)]; exact e)
      · skip
        refine jr_iconst (v := 0) d_m_isGood_35 (by decide) ?_
        exact jr_retX (v := some _) d_m_isGood_36 (by first | exact Nat.le_refl _ | exact Nat.zero_le _ | (dsimp only; omega)) (by first | exact Nat.le_refl _ | exact Nat.zero_le _ | (dsimp only; omega)) (by first | with_reducible rfl | (dsimp only; (unfold q_good; rw [if_neg (by clear hA hop; grind)]); done) | ((unfold q_good; rw [if_neg (by clear hA hop; grind)]); done) | (exfalso; clear hA hop; grind)) (by first | with_reducible rfl | (dsimp only; (unfold q_good; rw [if_neg (by clear hA hop; grind)]); done) | ((unfold q_good; rw [if_neg (by clear hA hop; grind)]); done) | (exfalso; clear hA hop; grind)) (by first | with_reducible rfl | (dsimp only; (unfold q_good; rw [if_neg (by clear hA hop; grind)]); done) | ((unfold q_good; rw [if_neg (by clear hA hop; grind)]); done) | (exfalso; clear hA hop; grind)) (by first | with_reducible rfl | (dsimp only; (unfold q_good; rw [if_neg (by clear hA hop; grind)]); done) | ((unfold q_good; rw [if_neg (by clear hA hop; grind)]); done) | (exfalso; clear hA hop; grind))
