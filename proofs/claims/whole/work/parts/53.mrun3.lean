def q_tkr (I : jc_I) (O : jc_O) (t j : Nat) (k : Int32) : Int32 := q_ct I (cR O t j) (I (12, t, j) 5) k (I (11, cR O t j, 0) 11).toNatClampNeg 0
def q_rs (O : jc_O) (t b n : Nat) (x k : Int32) : Nat → jc_I → jc_I
  | 0, I => q_over I t b n 2 x
  | m + 1, I => if 0 ≤ q_tkr I O t m k then jc_up (q_ho I t m x) (12, t, m) 5 (q_tkr I O t m k) else q_rs O t b n x k m (jc_up I (14, t, 0) 2 (I (14, t, 0) 2 - 1))
theorem q_ct_neg {I : jc_I} {c : Nat} {x k : Int32} : ∀ (m r : Nat), (∀ i, r ≤ i → i < r + m → 0 ≤ I (45, c, 0) i) → ¬ 0 ≤ q_ct I c x k m r → q_ct I c x k m r = -1
  | 0, _, _, _ => rfl
  | m + 1, r, h, h2 => by
    rw [q_ct] at h2 ⊢
    split at h2
    · exact absurd (h r (Nat.le_refl _) (by omega)) h2
    · rename_i hc
      rw [if_neg hc]
      exact q_ct_neg m (r + 1) (fun i a b => h i (by omega) (by omega)) h2
/-- what flies needs of a frame -/
def qF (I : jc_I) (O : jc_O) (t j : Nat) : Prop := qf O t j ∧ O (12, t, j) 0 = some (11, cR O t j, 0) ∧ qc O (cR O t j) ∧ qn I (cR O t j) ∧ qr I (cR O t j)
abbrev qFr (t : Nat) : Nat → jc_L := fun j => (12, t, j)
theorem qF.to {I I' : jc_I} {O : jc_O} {t j : Nat} (h : qF I O t j) (e : ∀ q k, q.1 = 11 ∨ q.1 = 45 → I' q k = I q k) : qF I' O t j := by
  obtain ⟨h1, h2, h3, h4, h5⟩ := h
  refine ⟨h1, h2, h3, ?_, ?_⟩
  · unfold qn at *
    rw [e _ 3 (Or.inl rfl), e _ 6 (Or.inl rfl), e _ 11 (Or.inl rfl)]
    exact h4
  · unfold qr at *
    rw [e _ 11 (Or.inl rfl)]
    intro r hr
    rw [e _ r (Or.inr rfl)]
    exact h5 r hr
theorem st_m_flies {I : jc_I} {O : jc_O} {live : jc_L → Prop} {t : Nat} {x : Int32} {u1 u2 u3 : Option jc_V} {Z : jc_Z} (h : jc_R y_m_flies 0 [some (.inr (some (10, 0, 0))), some (.inr (some (14, t, 0))), some (.inl x), u1, u2, u3] [] (jc_up I (14, t, 0) 2 (I (14, t, 0) 2 - 1)) O live 0 0 Z) : jc_R y_m_flies 133 [some (.inr (some (10, 0, 0))), some (.inr (some (14, t, 0))), some (.inl x), u1, u2, u3] [] I O live 0 0 Z := by
  refine jr_aload_n d_m_flies_133 rfl rfl ?_
  refine jr_dup d_m_flies_134 ?_
  refine jr_geti d_m_flies_135 f_m_183 rfl ?_
  refine jr_iconst (v := 1) d_m_flies_138 (by decide) ?_
  refine jr_isub d_m_flies_139 ?_
  refine jr_puti d_m_flies_140 f_m_183 (Or.inl rfl) rfl ?_
  refine jr_goto (tgt := 0) d_m_flies_143 (by decide) ?_
  exact h
theorem lp2_m_flies {O : jc_O} {live : jc_L → Prop} {t b n ko xt fn : Nat} {x kd : Int32} (hM : qM O) (hx1 : x - 1 = Int32.ofNat ko) (hx2 : ko < n) (hm1 : O (14, t, 0) 1 = some (15, xt, 0)) (hfn : fn ≤ 50000) : ∀ (m : Nat) (I : jc_I) (u1 u2 u3 : Option jc_V), ql I O live 2 n (qO b) → I (13, b + ko, 0) 0 = kd → ql I O live xt fn (qFr t) → I (14, t, 0) 2 = Int32.ofNat m → m ≤ fn → (∀ j, j < m → qF I O t j) → jc_R y_m_flies 0 [some (.inr (some (10, 0, 0))), some (.inr (some (14, t, 0))), some (.inl x), u1, u2, u3] [] I O live 0 0 (none, q_rs O t b n x kd m I, O, live, 0, 0) := by
  intro m
  induction m with
  | zero =>
    intro I u1 u2 u3 hl hk hfl hd hmf hF
    refine jr_aload_n d_m_flies_0 rfl rfl ?_
    refine jr_geti d_m_flies_1 f_m_183 rfl ?_
    refine jr_if_le (tgt := 146) d_m_flies_4 (by decide) (fun c4 => ?_) (fun c4 => ?_)
    · skip
      refine jr_aload_n d_m_flies_146 rfl rfl ?_
      refine jr_aload_n d_m_flies_147 rfl rfl ?_
      refine jr_iconst (v := 2) d_m_flies_148 (by decide) ?_
      refine jr_iload_n d_m_flies_149 rfl rfl ?_
      refine jv_V3v d_m_flies_150 l_m_202 k_m_over ⟨Nat.le_of_ble_eq_true rfl, Nat.le_of_ble_eq_true rfl⟩ rfl rfl (Nat.le_of_ble_eq_true rfl) (ct_m_over hM hl) (by first | decide | exact Nat.zero_le _ | (dsimp only; omega) | (dsimp only; grind)) (by first | decide | exact Nat.zero_le _ | (dsimp only; omega) | (dsimp only; grind)) ?_
      exact jr_retX (v := none) d_m_flies_153 (by first | exact Nat.le_refl _ | exact Nat.zero_le _ | (dsimp only; omega)) (by first | exact Nat.le_refl _ | exact Nat.zero_le _ | (dsimp only; omega)) (by first | with_reducible rfl | (dsimp only; (rw [q_rs]); done) | (exfalso; grind)) (by first | with_reducible rfl | (dsimp only; (rw [q_rs]); done) | (exfalso; grind)) (by first | with_reducible rfl | (dsimp only; (rw [q_rs]); done) | (exfalso; grind)) (by first | with_reducible rfl | (dsimp only; (rw [q_rs]); done) | (exfalso; grind))
    · skip
      exfalso; exact c4 (by rw [hd]; decide)
  | succ m ih =>
    intro I u1 u2 u3 hl hk hfl hd hmf hF
    refine jr_aload_n d_m_flies_0 rfl rfl ?_
    refine jr_geti d_m_flies_1 f_m_183 rfl ?_
    refine jr_if_le (tgt := 146) d_m_flies_4 (by decide) (fun c4 => ?_) (fun c4 => ?_)
    · skip
      exfalso; rw [hd, jle, jofI (by omega), j0I] at c4; omega
    · skip
      refine jr_aload_n d_m_flies_7 rfl rfl ?_
      refine jv_V0r d_m_flies_8 l_m_186 k_mT_top ⟨Nat.le_of_ble_eq_true rfl, Nat.le_of_ble_eq_true rfl⟩ rfl rfl (Nat.le_of_ble_eq_true rfl) (ct_mT_top (j := m) hm1 hfl (by rw [hd, jofs (by omega)]) (by omega) rfl) (by first | decide | exact Nat.zero_le _ | (dsimp only; omega) | (dsimp only; grind)) (by first | decide | exact Nat.zero_le _ | (dsimp only; omega) | (dsimp only; grind)) ?_
      first | rw [(hF m (by omega)).2.1] | skip
      refine jr_astore_n d_m_flies_11 rfl (Nat.le_of_ble_eq_true rfl) ?_
      refine jr_aload_n d_m_flies_12 rfl rfl ?_
      refine jr_getr d_m_flies_13 f_m_190 rfl rfl ?_
      first | rw [(hF m (by omega)).2.1] | skip
      refine jr_astore d_m_flies_16 (Nat.le_of_ble_eq_true rfl) ?_
      refine jr_iconst (v := 0) d_m_flies_18 (by decide) ?_
      refine jr_istore d_m_flies_19 (Nat.le_of_ble_eq_true rfl) ?_
      exact lp_m_flies (k := ko) hM hl hx1 hx2 (hF m (by omega)).1 (hF m (by omega)).2.2.1 (hF m (by omega)).2.2.2.1 (hF m (by omega)).2.2.2.2 (I (11, cR O t m, 0) 11).toNatClampNeg 0 (by omega) (fun h => by rw [q_rs]; rw [hk] at h; rw [if_pos (show 0 ≤ q_tkr I O t m kd from h)]; rw [hk]; rfl) (fun h => by rw [q_rs, if_neg (show ¬ 0 ≤ q_tkr I O t m kd from (by rw [hk] at h; show ¬ 0 ≤ q_ct _ _ _ _ _ _; rw [h]; decide))]; exact st_m_flies (ih _ _ _ _ (hl.to (by rw [jc_up_t _ _ _ _ _ _ _ _ (by decide)]) rfl (fun _ _ => rfl) (fun _ h => h)) (by rw [jc_up_t _ _ _ _ _ _ _ _ (by decide)]; exact hk) (hfl.to (by rw [jc_up_t _ _ _ _ _ _ _ _ (by decide)]) rfl (fun _ _ => rfl) (fun _ h => h)) (by rw [jc_up_s, hd, jofs (by omega)]) (by omega) (fun j hj => (hF j (by omega)).to (fun q k9 hq => jc_up_q _ _ _ _ _ _ (fun e => by rw [e] at hq; simp at hq)))))
theorem ct_m_flies {I : jc_I} {O : jc_O} {live : jc_L → Prop} {t b n ko xt fn m : Nat} {x : Int32} (hM : qM O) (hl : ql I O live 2 n (qO b)) (hx1 : x - 1 = Int32.ofNat ko) (hx2 : ko < n) (hm1 : O (14, t, 0) 1 = some (15, xt, 0)) (hfl : ql I O live xt fn (qFr t)) (hd : I (14, t, 0) 2 = Int32.ofNat m) (hmf : m ≤ fn) (hF : ∀ j, j < m → qF I O t j) : jc_Ct y_m_flies [.inr (some (10, 0, 0)), .inr (some (14, t, 0)), .inl x] I O live (none, q_rs O t b n x (I (13, b + ko, 0) 0) m I, O, live, 0, 0) := by
  refine jc_Ct.of (by decide +kernel) (rfl) (Nat.le_of_ble_eq_true rfl) ?_
  exact lp2_m_flies hM hx1 hx2 hm1 (by have := hfl.le; have := hfl.cp; omega) m I none none none hl rfl hfl hd hmf hF
