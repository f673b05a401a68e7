variable {D : Nat → Nat}
theorem op27 {x : Int32} (h0 : 0 ≤ x) (h1 : x ≤ 26) : ∃ n : Nat, n ≤ 26 ∧ x = Int32.ofNat n := by
  have e := jNI h0
  have e2 := jle.mp h1
  rw [show (26 : Int32).toInt = 26 from by decide] at e2
  refine ⟨x.toNatClampNeg, by omega, ?_⟩
  apply Int32.toInt_inj.mp
  rw [jofI (by omega), e]
theorem nf6 {J : jc_I} {x : Int32} (hv : jV J x) (h : ¬ m_nf J x = 0) : x = 0 ∧ m_nf J x = 6 := by
  unfold m_nf at *
  split at h
  · exact absurd rfl h
  · rename_i g
    refine ⟨?_, if_neg g⟩
    by_cases hx : x = 0
    · exact hx
    · exact absurd (ob_1 hv hx) g
theorem oha_cs {J : jc_I} {t j c : Nat} : m_oha (s_cs J t) t j c = m_oha J t j c := by
  have e : ∀ a u k, a ≠ 9 → s_cs J t (a, u) k = J (a, u) k := fun a u k ha => jk_cs (a, u) k (by simpa using ha)
  have e9 : s_cs J t (9, t, 0) 0 = J (9, t, 0) 0 := by unfold s_cs; rw [jc_up_k _ _ _ _ _ _ (by decide), jc_up_k _ _ _ _ _ _ (by decide)]
  unfold m_oha m_op f_pk
  rw [e9, e 8 _ _ (by decide), e 8 _ _ (by decide), e 6 _ _ (by decide), e 21 _ _ (by decide), e 3 _ _ (by decide), e 32 _ _ (by decide), e 7 _ _ (by decide)]
theorem fo_18 {J : jc_I} {t j : Nat} : m_fo J t j 18 = if 30 ≤ J (9, t, 0) 2 then 9 else 0 := by unfold m_fo; simp +decide only [if_true, if_false]
theorem fo_7 {J : jc_I} {t j : Nat} : m_fo J t j 7 = if f_pk J t j 0 = 0 then 7 else 0 := by unfold m_fo; simp +decide only [if_true, if_false]
theorem fo_21 {J : jc_I} {t j : Nat} : m_fo J t j 21 = m_fl J t (f_pk J t j 0) := by unfold m_fo; simp +decide only [if_true, if_false]
theorem fo_16 {J : jc_I} {t j : Nat} : m_fo J t j 16 = m_nf J (f_pk J t j 0) := by unfold m_fo; simp +decide only [if_true, if_false]
theorem fo_19 {J : jc_I} {t j : Nat} : m_fo J t j 19 = m_nf J (f_pk J t j 0) := by unfold m_fo; simp +decide only [if_true, if_false]
theorem fo_20 {J : jc_I} {t j : Nat} : m_fo J t j 20 = m_nf J (f_pk J t j 0) := by unfold m_fo; simp +decide only [if_true, if_false]
theorem fo_23 {J : jc_I} {t j : Nat} : m_fo J t j 23 = m_nf J (f_pk J t j 0) := by unfold m_fo; simp +decide only [if_true, if_false]
theorem fo_17 {J : jc_I} {t j : Nat} : m_fo J t j 17 = m_nf J (f_pk J t j 1) := by unfold m_fo; simp +decide only [if_true, if_false]
theorem fo_24 {J : jc_I} {t j : Nat} : m_fo J t j 24 = m_nf J (f_pk J t j 1) := by unfold m_fo; simp +decide only [if_true, if_false]
theorem fo_0 {J : jc_I} {t j : Nat} : m_fo J t j 0 = 0 := by unfold m_fo; simp +decide only [if_true, if_false]
theorem fo_1 {J : jc_I} {t j : Nat} : m_fo J t j 1 = 0 := by unfold m_fo; simp +decide only [if_true, if_false]
theorem fo_2 {J : jc_I} {t j : Nat} : m_fo J t j 2 = 0 := by unfold m_fo; simp +decide only [if_true, if_false]
theorem fo_3 {J : jc_I} {t j : Nat} : m_fo J t j 3 = 0 := by unfold m_fo; simp +decide only [if_true, if_false]
theorem fo_4 {J : jc_I} {t j : Nat} : m_fo J t j 4 = 0 := by unfold m_fo; simp +decide only [if_true, if_false]
theorem fo_5 {J : jc_I} {t j : Nat} : m_fo J t j 5 = 0 := by unfold m_fo; simp +decide only [if_true, if_false]
theorem fo_6 {J : jc_I} {t j : Nat} : m_fo J t j 6 = 0 := by unfold m_fo; simp +decide only [if_true, if_false]
theorem fo_8 {J : jc_I} {t j : Nat} : m_fo J t j 8 = 0 := by unfold m_fo; simp +decide only [if_true, if_false]
theorem fo_9 {J : jc_I} {t j : Nat} : m_fo J t j 9 = 0 := by unfold m_fo; simp +decide only [if_true, if_false]
theorem fo_10 {J : jc_I} {t j : Nat} : m_fo J t j 10 = 0 := by unfold m_fo; simp +decide only [if_true, if_false]
theorem fo_11 {J : jc_I} {t j : Nat} : m_fo J t j 11 = 0 := by unfold m_fo; simp +decide only [if_true, if_false]
theorem fo_12 {J : jc_I} {t j : Nat} : m_fo J t j 12 = 0 := by unfold m_fo; simp +decide only [if_true, if_false]
theorem fo_13 {J : jc_I} {t j : Nat} : m_fo J t j 13 = 0 := by unfold m_fo; simp +decide only [if_true, if_false]
theorem fo_14 {J : jc_I} {t j : Nat} : m_fo J t j 14 = 0 := by unfold m_fo; simp +decide only [if_true, if_false]
theorem fo_15 {J : jc_I} {t j : Nat} : m_fo J t j 15 = 0 := by unfold m_fo; simp +decide only [if_true, if_false]
theorem fo_22 {J : jc_I} {t j : Nat} : m_fo J t j 22 = 0 := by unfold m_fo; simp +decide only [if_true, if_false]
theorem fo_25 {J : jc_I} {t j : Nat} : m_fo J t j 25 = 0 := by unfold m_fo; simp +decide only [if_true, if_false]
theorem fo_26 {J : jc_I} {t j : Nat} : m_fo J t j 26 = 0 := by unfold m_fo; simp +decide only [if_true, if_false]
theorem jp_0 {J0 I : jc_I} {O P : jc_O} {live lv : jc_L → Prop} {S : Int} {t n0 j i b n xt fn c9 : Nat} {K K' : List Int32} (h0 : CX J0 O live S t n0) (hj : j + 1 = n0) (tp : TP (s_cs J0 t) t j (cd O t j) i K K') (r : RX I P lv t b n xt fn n0 c9) (f : FRc I P O t n0) (s : Sim t b n D (s_cs J0 t) I) (hDn : D t = n0) (hcn : J0 (3, 0, 0) 2 = Int32.ofNat n) (ho : (bk (s_cs J0 t)).op (cd O t j) i = 0) : OUT2 J0 (s_cs J0 t) O live I P lv t j b n xt fn c9 D S := by
  have hD : j < D t := by omega
  have h := h0.cs
  have hcn1 : s_cs J0 t (3, 0, 0) 2 = Int32.ofNat n := by rw [jk_cs (3, 0, 0) 2 (by simp)]; exact hcn
  obtain ⟨rb, qf9, eo, ea⟩ := RB.of h hj tp r f s
  exact OUT.to2 h0 hj tp ho rfl fo_0 (jo_0 h hj tp r f s hDn hcn1 ho)
theorem jp_1 {J0 I : jc_I} {O P : jc_O} {live lv : jc_L → Prop} {S : Int} {t n0 j i b n xt fn c9 : Nat} {K K' : List Int32} (h0 : CX J0 O live S t n0) (hj : j + 1 = n0) (tp : TP (s_cs J0 t) t j (cd O t j) i K K') (r : RX I P lv t b n xt fn n0 c9) (f : FRc I P O t n0) (s : Sim t b n D (s_cs J0 t) I) (hDn : D t = n0) (hcn : J0 (3, 0, 0) 2 = Int32.ofNat n) (ho : (bk (s_cs J0 t)).op (cd O t j) i = 1) : OUT2 J0 (s_cs J0 t) O live I P lv t j b n xt fn c9 D S := by
  have hD : j < D t := by omega
  have h := h0.cs
  have hcn1 : s_cs J0 t (3, 0, 0) 2 = Int32.ofNat n := by rw [jk_cs (3, 0, 0) 2 (by simp)]; exact hcn
  obtain ⟨rb, qf9, eo, ea⟩ := RB.of h hj tp r f s
  exact OUT.to2 h0 hj tp ho rfl fo_1 (jo_1 h hj tp r f s hDn hcn1 ho)
theorem jp_2 {J0 I : jc_I} {O P : jc_O} {live lv : jc_L → Prop} {S : Int} {t n0 j i b n xt fn c9 : Nat} {K K' : List Int32} (h0 : CX J0 O live S t n0) (hj : j + 1 = n0) (tp : TP (s_cs J0 t) t j (cd O t j) i K K') (r : RX I P lv t b n xt fn n0 c9) (f : FRc I P O t n0) (s : Sim t b n D (s_cs J0 t) I) (hDn : D t = n0) (hcn : J0 (3, 0, 0) 2 = Int32.ofNat n) (ho : (bk (s_cs J0 t)).op (cd O t j) i = 2) : OUT2 J0 (s_cs J0 t) O live I P lv t j b n xt fn c9 D S := by
  have hD : j < D t := by omega
  have h := h0.cs
  have hcn1 : s_cs J0 t (3, 0, 0) 2 = Int32.ofNat n := by rw [jk_cs (3, 0, 0) 2 (by simp)]; exact hcn
  obtain ⟨rb, qf9, eo, ea⟩ := RB.of h hj tp r f s
  exact OUT.to2 h0 hj tp ho rfl fo_2 (jo_2 h hj tp r f s hDn hcn1 ho)
theorem jp_3 {J0 I : jc_I} {O P : jc_O} {live lv : jc_L → Prop} {S : Int} {t n0 j i b n xt fn c9 : Nat} {K K' : List Int32} (h0 : CX J0 O live S t n0) (hj : j + 1 = n0) (tp : TP (s_cs J0 t) t j (cd O t j) i K K') (r : RX I P lv t b n xt fn n0 c9) (f : FRc I P O t n0) (s : Sim t b n D (s_cs J0 t) I) (hDn : D t = n0) (hcn : J0 (3, 0, 0) 2 = Int32.ofNat n) (ho : (bk (s_cs J0 t)).op (cd O t j) i = 3) : OUT2 J0 (s_cs J0 t) O live I P lv t j b n xt fn c9 D S := by
  have hD : j < D t := by omega
  have h := h0.cs
  have hcn1 : s_cs J0 t (3, 0, 0) 2 = Int32.ofNat n := by rw [jk_cs (3, 0, 0) 2 (by simp)]; exact hcn
  obtain ⟨rb, qf9, eo, ea⟩ := RB.of h hj tp r f s
  exact OUT.to2 h0 hj tp ho rfl fo_3 (jo_3 h hj tp r f s hDn hcn1 ho)
theorem jp_4 {J0 I : jc_I} {O P : jc_O} {live lv : jc_L → Prop} {S : Int} {t n0 j i b n xt fn c9 : Nat} {K K' : List Int32} (h0 : CX J0 O live S t n0) (hj : j + 1 = n0) (tp : TP (s_cs J0 t) t j (cd O t j) i K K') (r : RX I P lv t b n xt fn n0 c9) (f : FRc I P O t n0) (s : Sim t b n D (s_cs J0 t) I) (hDn : D t = n0) (hcn : J0 (3, 0, 0) 2 = Int32.ofNat n) (ho : (bk (s_cs J0 t)).op (cd O t j) i = 4) : OUT2 J0 (s_cs J0 t) O live I P lv t j b n xt fn c9 D S := by
  have hD : j < D t := by omega
  have h := h0.cs
  have hcn1 : s_cs J0 t (3, 0, 0) 2 = Int32.ofNat n := by rw [jk_cs (3, 0, 0) 2 (by simp)]; exact hcn
  obtain ⟨rb, qf9, eo, ea⟩ := RB.of h hj tp r f s
  exact OUT.to2 h0 hj tp ho rfl fo_4 (jo_4 h hj tp r f s hDn hcn1 ho)
theorem jp_5 {J0 I : jc_I} {O P : jc_O} {live lv : jc_L → Prop} {S : Int} {t n0 j i b n xt fn c9 : Nat} {K K' : List Int32} (h0 : CX J0 O live S t n0) (hj : j + 1 = n0) (tp : TP (s_cs J0 t) t j (cd O t j) i K K') (r : RX I P lv t b n xt fn n0 c9) (f : FRc I P O t n0) (s : Sim t b n D (s_cs J0 t) I) (hDn : D t = n0) (hcn : J0 (3, 0, 0) 2 = Int32.ofNat n) (ho : (bk (s_cs J0 t)).op (cd O t j) i = 5) : OUT2 J0 (s_cs J0 t) O live I P lv t j b n xt fn c9 D S := by
  have hD : j < D t := by omega
  have h := h0.cs
  have hcn1 : s_cs J0 t (3, 0, 0) 2 = Int32.ofNat n := by rw [jk_cs (3, 0, 0) 2 (by simp)]; exact hcn
  obtain ⟨rb, qf9, eo, ea⟩ := RB.of h hj tp r f s
  exact OUT.to2 h0 hj tp ho rfl fo_5 (jo_5 h hj tp r f s hDn hcn1 ho)
theorem jp_6 {J0 I : jc_I} {O P : jc_O} {live lv : jc_L → Prop} {S : Int} {t n0 j i b n xt fn c9 : Nat} {K K' : List Int32} (h0 : CX J0 O live S t n0) (hj : j + 1 = n0) (tp : TP (s_cs J0 t) t j (cd O t j) i K K') (r : RX I P lv t b n xt fn n0 c9) (f : FRc I P O t n0) (s : Sim t b n D (s_cs J0 t) I) (hDn : D t = n0) (hcn : J0 (3, 0, 0) 2 = Int32.ofNat n) (ho : (bk (s_cs J0 t)).op (cd O t j) i = 6) : OUT2 J0 (s_cs J0 t) O live I P lv t j b n xt fn c9 D S := by
  have hD : j < D t := by omega
  have h := h0.cs
  have hcn1 : s_cs J0 t (3, 0, 0) 2 = Int32.ofNat n := by rw [jk_cs (3, 0, 0) 2 (by simp)]; exact hcn
  obtain ⟨rb, qf9, eo, ea⟩ := RB.of h hj tp r f s
  exact OUT.to2 h0 hj tp ho rfl fo_6 (jo_6 h hj tp r f s hDn hcn1 ho)
theorem jp_8 {J0 I : jc_I} {O P : jc_O} {live lv : jc_L → Prop} {S : Int} {t n0 j i b n xt fn c9 : Nat} {K K' : List Int32} (h0 : CX J0 O live S t n0) (hj : j + 1 = n0) (tp : TP (s_cs J0 t) t j (cd O t j) i K K') (r : RX I P lv t b n xt fn n0 c9) (f : FRc I P O t n0) (s : Sim t b n D (s_cs J0 t) I) (hDn : D t = n0) (hcn : J0 (3, 0, 0) 2 = Int32.ofNat n) (ho : (bk (s_cs J0 t)).op (cd O t j) i = 8) : OUT2 J0 (s_cs J0 t) O live I P lv t j b n xt fn c9 D S := by
  have hD : j < D t := by omega
  have h := h0.cs
  have hcn1 : s_cs J0 t (3, 0, 0) 2 = Int32.ofNat n := by rw [jk_cs (3, 0, 0) 2 (by simp)]; exact hcn
  obtain ⟨rb, qf9, eo, ea⟩ := RB.of h hj tp r f s
  exact OUT.to2 h0 hj tp ho rfl fo_8 (jo_8 h hj tp r f s hDn hcn1 ho)
theorem jp_9 {J0 I : jc_I} {O P : jc_O} {live lv : jc_L → Prop} {S : Int} {t n0 j i b n xt fn c9 : Nat} {K K' : List Int32} (h0 : CX J0 O live S t n0) (hj : j + 1 = n0) (tp : TP (s_cs J0 t) t j (cd O t j) i K K') (r : RX I P lv t b n xt fn n0 c9) (f : FRc I P O t n0) (s : Sim t b n D (s_cs J0 t) I) (hDn : D t = n0) (hcn : J0 (3, 0, 0) 2 = Int32.ofNat n) (ho : (bk (s_cs J0 t)).op (cd O t j) i = 9) : OUT2 J0 (s_cs J0 t) O live I P lv t j b n xt fn c9 D S := by
  have hD : j < D t := by omega
  have h := h0.cs
  have hcn1 : s_cs J0 t (3, 0, 0) 2 = Int32.ofNat n := by rw [jk_cs (3, 0, 0) 2 (by simp)]; exact hcn
  obtain ⟨rb, qf9, eo, ea⟩ := RB.of h hj tp r f s
  exact OUT.to2 h0 hj tp ho rfl fo_9 (jo_9 h hj tp r f s hDn hcn1 ho)
theorem jp_10 {J0 I : jc_I} {O P : jc_O} {live lv : jc_L → Prop} {S : Int} {t n0 j i b n xt fn c9 : Nat} {K K' : List Int32} (h0 : CX J0 O live S t n0) (hj : j + 1 = n0) (tp : TP (s_cs J0 t) t j (cd O t j) i K K') (r : RX I P lv t b n xt fn n0 c9) (f : FRc I P O t n0) (s : Sim t b n D (s_cs J0 t) I) (hDn : D t = n0) (hcn : J0 (3, 0, 0) 2 = Int32.ofNat n) (ho : (bk (s_cs J0 t)).op (cd O t j) i = 10) : OUT2 J0 (s_cs J0 t) O live I P lv t j b n xt fn c9 D S := by
  have hD : j < D t := by omega
  have h := h0.cs
  have hcn1 : s_cs J0 t (3, 0, 0) 2 = Int32.ofNat n := by rw [jk_cs (3, 0, 0) 2 (by simp)]; exact hcn
  obtain ⟨rb, qf9, eo, ea⟩ := RB.of h hj tp r f s
  exact OUT.to2 h0 hj tp ho rfl fo_10 (jo_10 h hj tp r f s hDn hcn1 ho)
theorem jp_11 {J0 I : jc_I} {O P : jc_O} {live lv : jc_L → Prop} {S : Int} {t n0 j i b n xt fn c9 : Nat} {K K' : List Int32} (h0 : CX J0 O live S t n0) (hj : j + 1 = n0) (tp : TP (s_cs J0 t) t j (cd O t j) i K K') (r : RX I P lv t b n xt fn n0 c9) (f : FRc I P O t n0) (s : Sim t b n D (s_cs J0 t) I) (hDn : D t = n0) (hcn : J0 (3, 0, 0) 2 = Int32.ofNat n) (ho : (bk (s_cs J0 t)).op (cd O t j) i = 11) : OUT2 J0 (s_cs J0 t) O live I P lv t j b n xt fn c9 D S := by
  have hD : j < D t := by omega
  have h := h0.cs
  have hcn1 : s_cs J0 t (3, 0, 0) 2 = Int32.ofNat n := by rw [jk_cs (3, 0, 0) 2 (by simp)]; exact hcn
  obtain ⟨rb, qf9, eo, ea⟩ := RB.of h hj tp r f s
  exact OUT.to2 h0 hj tp ho rfl fo_11 (jo_11 h hj tp r f s hDn hcn1 ho)
theorem jp_12 {J0 I : jc_I} {O P : jc_O} {live lv : jc_L → Prop} {S : Int} {t n0 j i b n xt fn c9 : Nat} {K K' : List Int32} (h0 : CX J0 O live S t n0) (hj : j + 1 = n0) (tp : TP (s_cs J0 t) t j (cd O t j) i K K') (r : RX I P lv t b n xt fn n0 c9) (f : FRc I P O t n0) (s : Sim t b n D (s_cs J0 t) I) (hDn : D t = n0) (hcn : J0 (3, 0, 0) 2 = Int32.ofNat n) (ho : (bk (s_cs J0 t)).op (cd O t j) i = 12) : OUT2 J0 (s_cs J0 t) O live I P lv t j b n xt fn c9 D S := by
  have hD : j < D t := by omega
  have h := h0.cs
  have hcn1 : s_cs J0 t (3, 0, 0) 2 = Int32.ofNat n := by rw [jk_cs (3, 0, 0) 2 (by simp)]; exact hcn
  obtain ⟨rb, qf9, eo, ea⟩ := RB.of h hj tp r f s
  exact OUT.to2 h0 hj tp ho rfl fo_12 (jo_12 h hj tp r f s hDn hcn1 ho)
theorem jp_13 {J0 I : jc_I} {O P : jc_O} {live lv : jc_L → Prop} {S : Int} {t n0 j i b n xt fn c9 : Nat} {K K' : List Int32} (h0 : CX J0 O live S t n0) (hj : j + 1 = n0) (tp : TP (s_cs J0 t) t j (cd O t j) i K K') (r : RX I P lv t b n xt fn n0 c9) (f : FRc I P O t n0) (s : Sim t b n D (s_cs J0 t) I) (hDn : D t = n0) (hcn : J0 (3, 0, 0) 2 = Int32.ofNat n) (ho : (bk (s_cs J0 t)).op (cd O t j) i = 13) : OUT2 J0 (s_cs J0 t) O live I P lv t j b n xt fn c9 D S := by
  have hD : j < D t := by omega
  have h := h0.cs
  have hcn1 : s_cs J0 t (3, 0, 0) 2 = Int32.ofNat n := by rw [jk_cs (3, 0, 0) 2 (by simp)]; exact hcn
  obtain ⟨rb, qf9, eo, ea⟩ := RB.of h hj tp r f s
  exact OUT.to2 h0 hj tp ho rfl fo_13 (jo_13 h hj tp r f s hDn hcn1 ho)
theorem jp_14 {J0 I : jc_I} {O P : jc_O} {live lv : jc_L → Prop} {S : Int} {t n0 j i b n xt fn c9 : Nat} {K K' : List Int32} (h0 : CX J0 O live S t n0) (hj : j + 1 = n0) (tp : TP (s_cs J0 t) t j (cd O t j) i K K') (r : RX I P lv t b n xt fn n0 c9) (f : FRc I P O t n0) (s : Sim t b n D (s_cs J0 t) I) (hDn : D t = n0) (hcn : J0 (3, 0, 0) 2 = Int32.ofNat n) (ho : (bk (s_cs J0 t)).op (cd O t j) i = 14) : OUT2 J0 (s_cs J0 t) O live I P lv t j b n xt fn c9 D S := by
  have hD : j < D t := by omega
  have h := h0.cs
  have hcn1 : s_cs J0 t (3, 0, 0) 2 = Int32.ofNat n := by rw [jk_cs (3, 0, 0) 2 (by simp)]; exact hcn
  obtain ⟨rb, qf9, eo, ea⟩ := RB.of h hj tp r f s
  exact OUT.to2 h0 hj tp ho rfl fo_14 (jo_14 h hj tp r f s hDn hcn1 ho)
theorem jp_15 {J0 I : jc_I} {O P : jc_O} {live lv : jc_L → Prop} {S : Int} {t n0 j i b n xt fn c9 : Nat} {K K' : List Int32} (h0 : CX J0 O live S t n0) (hj : j + 1 = n0) (tp : TP (s_cs J0 t) t j (cd O t j) i K K') (r : RX I P lv t b n xt fn n0 c9) (f : FRc I P O t n0) (s : Sim t b n D (s_cs J0 t) I) (hDn : D t = n0) (hcn : J0 (3, 0, 0) 2 = Int32.ofNat n) (ho : (bk (s_cs J0 t)).op (cd O t j) i = 15) : OUT2 J0 (s_cs J0 t) O live I P lv t j b n xt fn c9 D S := by
  have hD : j < D t := by omega
  have h := h0.cs
  have hcn1 : s_cs J0 t (3, 0, 0) 2 = Int32.ofNat n := by rw [jk_cs (3, 0, 0) 2 (by simp)]; exact hcn
  obtain ⟨rb, qf9, eo, ea⟩ := RB.of h hj tp r f s
  exact OUT.to2 h0 hj tp ho rfl fo_15 (jo_15 h hj tp r f s hDn hcn1 ho)
theorem jp_25 {J0 I : jc_I} {O P : jc_O} {live lv : jc_L → Prop} {S : Int} {t n0 j i b n xt fn c9 : Nat} {K K' : List Int32} (h0 : CX J0 O live S t n0) (hj : j + 1 = n0) (tp : TP (s_cs J0 t) t j (cd O t j) i K K') (r : RX I P lv t b n xt fn n0 c9) (f : FRc I P O t n0) (s : Sim t b n D (s_cs J0 t) I) (hDn : D t = n0) (hcn : J0 (3, 0, 0) 2 = Int32.ofNat n) (ho : (bk (s_cs J0 t)).op (cd O t j) i = 25) : OUT2 J0 (s_cs J0 t) O live I P lv t j b n xt fn c9 D S := by
  have hD : j < D t := by omega
  have h := h0.cs
  have hcn1 : s_cs J0 t (3, 0, 0) 2 = Int32.ofNat n := by rw [jk_cs (3, 0, 0) 2 (by simp)]; exact hcn
  obtain ⟨rb, qf9, eo, ea⟩ := RB.of h hj tp r f s
  exact OUT.to2 h0 hj tp ho rfl fo_25 (jo_25 h hj tp r f s hDn hcn1 ho)
theorem jp_26 {J0 I : jc_I} {O P : jc_O} {live lv : jc_L → Prop} {S : Int} {t n0 j i b n xt fn c9 : Nat} {K K' : List Int32} (h0 : CX J0 O live S t n0) (hj : j + 1 = n0) (tp : TP (s_cs J0 t) t j (cd O t j) i K K') (r : RX I P lv t b n xt fn n0 c9) (f : FRc I P O t n0) (s : Sim t b n D (s_cs J0 t) I) (hDn : D t = n0) (hcn : J0 (3, 0, 0) 2 = Int32.ofNat n) (ho : (bk (s_cs J0 t)).op (cd O t j) i = 26) : OUT2 J0 (s_cs J0 t) O live I P lv t j b n xt fn c9 D S := by
  have hD : j < D t := by omega
  have h := h0.cs
  have hcn1 : s_cs J0 t (3, 0, 0) 2 = Int32.ofNat n := by rw [jk_cs (3, 0, 0) 2 (by simp)]; exact hcn
  obtain ⟨rb, qf9, eo, ea⟩ := RB.of h hj tp r f s
  exact OUT.to2 h0 hj tp ho rfl fo_26 (jo_26 h hj tp r f s hDn hcn1 ho)
theorem jp_7 {J0 I : jc_I} {O P : jc_O} {live lv : jc_L → Prop} {S : Int} {t n0 j i b n xt fn c9 : Nat} {K K' : List Int32} (h0 : CX J0 O live S t n0) (hj : j + 1 = n0) (tp : TP (s_cs J0 t) t j (cd O t j) i K K') (r : RX I P lv t b n xt fn n0 c9) (f : FRc I P O t n0) (s : Sim t b n D (s_cs J0 t) I) (hDn : D t = n0) (hcn : J0 (3, 0, 0) 2 = Int32.ofNat n) (ho : (bk (s_cs J0 t)).op (cd O t j) i = 7) : OUT2 J0 (s_cs J0 t) O live I P lv t j b n xt fn c9 D S := by
  have hD : j < D t := by omega
  have h := h0.cs
  have hcn1 : s_cs J0 t (3, 0, 0) 2 = Int32.ofNat n := by rw [jk_cs (3, 0, 0) 2 (by simp)]; exact hcn
  obtain ⟨rb, qf9, eo, ea⟩ := RB.of h hj tp r f s
  have eo2 : I (41, cd O t j, 0) i = 7 := eo.trans ho
  obtain ⟨q1, q2, q3, q4⟩ := q_bnd hD tp.tf.d tp.tf.le s
  have hp := tp.pi
  rw [ho, p_ins_7] at hp
  obtain ⟨K2, b1, b2⟩ := bind_some hp
  obtain ⟨K3, b3, b4⟩ := bind_some b1
  obtain ⟨e1, -⟩ := p_take_some b3
  subst e1
  by_cases hz : f_pk (s_cs J0 t) t j 0 = 0
  · exact OUT2.fail h0 hj tp r f s hDn hcn ho (by rw [fo_7, if_pos hz]) (by decide) (ct_m_step_pl rb.a1 rb.a2 rb.a3 rb.a4 rb.a5 rb.a6 rb.a7 rb.a8 q_mk_live (ct_m_plain_d r.qt qf9 (q1 (by simp)) q3 eo2 (by rw [s.tp hD tp.tf.d tp.tf.le, n_tp tp.tf.d tp.tf.le, ← n_pk tp.tf.d tp.tf.le]; exact hz)) (by clear rb r f s h h0 tp; rw [eo2]; decide))
  · exact OUT.to2 h0 hj tp ho rfl (by rw [fo_7, if_neg hz]) (jo_7 h hj tp r f s hDn hcn1 ho hz)
theorem jp_16 {J0 I : jc_I} {O P : jc_O} {live lv : jc_L → Prop} {S : Int} {t n0 j i b n xt fn c9 : Nat} {K K' : List Int32} (h0 : CX J0 O live S t n0) (hj : j + 1 = n0) (tp : TP (s_cs J0 t) t j (cd O t j) i K K') (r : RX I P lv t b n xt fn n0 c9) (f : FRc I P O t n0) (s : Sim t b n D (s_cs J0 t) I) (hDn : D t = n0) (hcn : J0 (3, 0, 0) 2 = Int32.ofNat n) (ho : (bk (s_cs J0 t)).op (cd O t j) i = 16) : OUT2 J0 (s_cs J0 t) O live I P lv t j b n xt fn c9 D S := by
  have hD : j < D t := by omega
  have h := h0.cs
  have hcn1 : s_cs J0 t (3, 0, 0) 2 = Int32.ofNat n := by rw [jk_cs (3, 0, 0) 2 (by simp)]; exact hcn
  obtain ⟨rb, qf9, eo, ea⟩ := RB.of h hj tp r f s
  have eo2 : I (41, cd O t j, 0) i = 16 := eo.trans ho
  obtain ⟨q1, q2, q3, q4⟩ := q_bnd hD tp.tf.d tp.tf.le s
  have hp := tp.pi
  rw [ho, p_ins_16] at hp
  obtain ⟨K2, b1, b2⟩ := bind_some hp
  obtain ⟨e1, -⟩ := p_take_some b1
  subst e1
  by_cases hz : m_nf (s_cs J0 t) (f_pk (s_cs J0 t) t j 0) = 0
  · exact OUT.to2 h0 hj tp ho rfl (by rw [fo_16]; exact hz) (jo_16 h hj tp r f s hDn hcn1 ho hz)
  · obtain ⟨x0, x6⟩ := nf6 (by rw [n_pk tp.tf.d tp.tf.le]; exact tp.tf.ty.1 rfl) hz
    exact OUT2.fail h0 hj tp r f s hDn hcn ho (by rw [fo_16]; exact x6) (by decide) (ct_m_step_16 rb.a1 rb.a2 rb.a3 rb.a4 rb.a5 rb.a6 rb.a7 rb.a8 q_mk_live (ct_m_field_gn r.qt qf9 (q1 (by simp)) q3 (Or.inl eo2) (by rw [s.tp hD tp.tf.d tp.tf.le, n_tp tp.tf.d tp.tf.le, ← n_pk tp.tf.d tp.tf.le]; exact x0)) (Or.inl eo2))
theorem jp_23 {J0 I : jc_I} {O P : jc_O} {live lv : jc_L → Prop} {S : Int} {t n0 j i b n xt fn c9 : Nat} {K K' : List Int32} (h0 : CX J0 O live S t n0) (hj : j + 1 = n0) (tp : TP (s_cs J0 t) t j (cd O t j) i K K') (r : RX I P lv t b n xt fn n0 c9) (f : FRc I P O t n0) (s : Sim t b n D (s_cs J0 t) I) (hDn : D t = n0) (hcn : J0 (3, 0, 0) 2 = Int32.ofNat n) (ho : (bk (s_cs J0 t)).op (cd O t j) i = 23) : OUT2 J0 (s_cs J0 t) O live I P lv t j b n xt fn c9 D S := by
  have hD : j < D t := by omega
  have h := h0.cs
  have hcn1 : s_cs J0 t (3, 0, 0) 2 = Int32.ofNat n := by rw [jk_cs (3, 0, 0) 2 (by simp)]; exact hcn
  obtain ⟨rb, qf9, eo, ea⟩ := RB.of h hj tp r f s
  have eo2 : I (41, cd O t j, 0) i = 23 := eo.trans ho
  obtain ⟨q1, q2, q3, q4⟩ := q_bnd hD tp.tf.d tp.tf.le s
  have hp := tp.pi
  rw [ho, p_ins_23] at hp
  obtain ⟨K2, b1, b2⟩ := bind_some hp
  obtain ⟨e1, -⟩ := p_take_some b1
  subst e1
  by_cases hz : m_nf (s_cs J0 t) (f_pk (s_cs J0 t) t j 0) = 0
  · exact OUT.to2 h0 hj tp ho rfl (by rw [fo_23]; exact hz) (jo_23 h hj tp r f s hDn hcn1 ho hz)
  · obtain ⟨x0, x6⟩ := nf6 (by rw [n_pk tp.tf.d tp.tf.le]; exact tp.tf.ty.1 rfl) hz
    exact OUT2.fail h0 hj tp r f s hDn hcn ho (by rw [fo_23]; exact x6) (by decide) (ct_m_step_16 rb.a1 rb.a2 rb.a3 rb.a4 rb.a5 rb.a6 rb.a7 rb.a8 q_mk_live (ct_m_field_gn r.qt qf9 (q1 (by simp)) q3 (Or.inr eo2) (by rw [s.tp hD tp.tf.d tp.tf.le, n_tp tp.tf.d tp.tf.le, ← n_pk tp.tf.d tp.tf.le]; exact x0)) (Or.inr (Or.inr (Or.inl eo2))))
theorem jp_17 {J0 I : jc_I} {O P : jc_O} {live lv : jc_L → Prop} {S : Int} {t n0 j i b n xt fn c9 : Nat} {K K' : List Int32} (h0 : CX J0 O live S t n0) (hj : j + 1 = n0) (tp : TP (s_cs J0 t) t j (cd O t j) i K K') (r : RX I P lv t b n xt fn n0 c9) (f : FRc I P O t n0) (s : Sim t b n D (s_cs J0 t) I) (hDn : D t = n0) (hcn : J0 (3, 0, 0) 2 = Int32.ofNat n) (ho : (bk (s_cs J0 t)).op (cd O t j) i = 17) : OUT2 J0 (s_cs J0 t) O live I P lv t j b n xt fn c9 D S := by
  have hD : j < D t := by omega
  have h := h0.cs
  have hcn1 : s_cs J0 t (3, 0, 0) 2 = Int32.ofNat n := by rw [jk_cs (3, 0, 0) 2 (by simp)]; exact hcn
  obtain ⟨rb, qf9, eo, ea⟩ := RB.of h hj tp r f s
  have eo2 : I (41, cd O t j, 0) i = 17 := eo.trans ho
  obtain ⟨q1, q2, q3, q4⟩ := q_bnd hD tp.tf.d tp.tf.le s
  have hp := tp.pi
  rw [ho, p_ins_17] at hp
  obtain ⟨K2, b1, b2⟩ := bind_some hp
  obtain ⟨e1, -⟩ := p_take_some b1
  obtain ⟨e2, -⟩ := p_take_some b2
  subst e2
  subst e1
  have hle : K'.length + 1 + 1 ≤ 12 := tp.tf.le
  have eq2 : q_tp2 I t j = f_pk (s_cs J0 t) t j 1 := by
    rw [n_pk1 tp.tf.d tp.tf.le]
    unfold q_tp2
    have e5 : Int32.ofNat (K'.length + 1 + 1) - 2 = Int32.ofNat K'.length := by
      apply Int32.toInt_inj.mp
      rw [jsubI (by rw [jofI (by omega)]; omega) (by rw [show (2 : Int32).toInt = 2 from by decide]; omega), jofI (by omega), jofI (by omega), show (2 : Int32).toInt = 2 from by decide]
      omega
    rw [s.d hD, tp.tf.d, List.length_cons, List.length_cons, e5, jofN (by omega), s.va]
  have h2 : 2 ≤ I (12, t, j) 4 := by
    have e1 := jofI (n := K'.length + 1 + 1) (by omega)
    rw [s.d hD, tp.tf.d, List.length_cons, List.length_cons, jle, e1, show (2 : Int32).toInt = 2 from by decide]
    omega
  by_cases hz : m_nf (s_cs J0 t) (f_pk (s_cs J0 t) t j 1) = 0
  · exact OUT.to2 h0 hj tp ho rfl (by rw [fo_17]; exact hz) (jo_17 h hj tp r f s hDn hcn1 ho hz)
  · obtain ⟨x0, x6⟩ := nf6 (by rw [n_pk1 tp.tf.d tp.tf.le]; exact tp.tf.ty.2.1 rfl) hz
    exact OUT2.fail h0 hj tp r f s hDn hcn ho (by rw [fo_17]; exact x6) (by decide) (ct_m_step_16 rb.a1 rb.a2 rb.a3 rb.a4 rb.a5 rb.a6 rb.a7 rb.a8 q_mk_live (ct_m_field_pn r.qt qf9 h2 q3 (Or.inl eo2) (by rw [eq2]; exact x0)) (Or.inr (Or.inl eo2)))
theorem jp_24 {J0 I : jc_I} {O P : jc_O} {live lv : jc_L → Prop} {S : Int} {t n0 j i b n xt fn c9 : Nat} {K K' : List Int32} (h0 : CX J0 O live S t n0) (hj : j + 1 = n0) (tp : TP (s_cs J0 t) t j (cd O t j) i K K') (r : RX I P lv t b n xt fn n0 c9) (f : FRc I P O t n0) (s : Sim t b n D (s_cs J0 t) I) (hDn : D t = n0) (hcn : J0 (3, 0, 0) 2 = Int32.ofNat n) (ho : (bk (s_cs J0 t)).op (cd O t j) i = 24) : OUT2 J0 (s_cs J0 t) O live I P lv t j b n xt fn c9 D S := by
  have hD : j < D t := by omega
  have h := h0.cs
  have hcn1 : s_cs J0 t (3, 0, 0) 2 = Int32.ofNat n := by rw [jk_cs (3, 0, 0) 2 (by simp)]; exact hcn
  obtain ⟨rb, qf9, eo, ea⟩ := RB.of h hj tp r f s
  have eo2 : I (41, cd O t j, 0) i = 24 := eo.trans ho
  obtain ⟨q1, q2, q3, q4⟩ := q_bnd hD tp.tf.d tp.tf.le s
  have hp := tp.pi
  rw [ho, p_ins_24] at hp
  obtain ⟨K2, b1, b2⟩ := bind_some hp
  obtain ⟨e1, -⟩ := p_take_some b1
  obtain ⟨e2, -⟩ := p_take_some b2
  subst e2
  subst e1
  have hle : K'.length + 1 + 1 ≤ 12 := tp.tf.le
  have eq2 : q_tp2 I t j = f_pk (s_cs J0 t) t j 1 := by
    rw [n_pk1 tp.tf.d tp.tf.le]
    unfold q_tp2
    have e5 : Int32.ofNat (K'.length + 1 + 1) - 2 = Int32.ofNat K'.length := by
      apply Int32.toInt_inj.mp
      rw [jsubI (by rw [jofI (by omega)]; omega) (by rw [show (2 : Int32).toInt = 2 from by decide]; omega), jofI (by omega), jofI (by omega), show (2 : Int32).toInt = 2 from by decide]
      omega
    rw [s.d hD, tp.tf.d, List.length_cons, List.length_cons, e5, jofN (by omega), s.va]
  have h2 : 2 ≤ I (12, t, j) 4 := by
    have e1 := jofI (n := K'.length + 1 + 1) (by omega)
    rw [s.d hD, tp.tf.d, List.length_cons, List.length_cons, jle, e1, show (2 : Int32).toInt = 2 from by decide]
    omega
  by_cases hz : m_nf (s_cs J0 t) (f_pk (s_cs J0 t) t j 1) = 0
  · exact OUT.to2 h0 hj tp ho rfl (by rw [fo_24]; exact hz) (jo_24 h hj tp r f s hDn hcn1 ho hz)
  · obtain ⟨x0, x6⟩ := nf6 (by rw [n_pk1 tp.tf.d tp.tf.le]; exact tp.tf.ty.2.1 rfl) hz
    exact OUT2.fail h0 hj tp r f s hDn hcn ho (by rw [fo_24]; exact x6) (by decide) (ct_m_step_16 rb.a1 rb.a2 rb.a3 rb.a4 rb.a5 rb.a6 rb.a7 rb.a8 q_mk_live (ct_m_field_pn r.qt qf9 h2 q3 (Or.inr eo2) (by rw [eq2]; exact x0)) (Or.inr (Or.inr (Or.inr eo2))))
theorem jp_19 {J0 I : jc_I} {O P : jc_O} {live lv : jc_L → Prop} {S : Int} {t n0 j i b n xt fn c9 : Nat} {K K' : List Int32} (h0 : CX J0 O live S t n0) (hj : j + 1 = n0) (tp : TP (s_cs J0 t) t j (cd O t j) i K K') (r : RX I P lv t b n xt fn n0 c9) (f : FRc I P O t n0) (s : Sim t b n D (s_cs J0 t) I) (hDn : D t = n0) (hcn : J0 (3, 0, 0) 2 = Int32.ofNat n) (ho : (bk (s_cs J0 t)).op (cd O t j) i = 19) : OUT2 J0 (s_cs J0 t) O live I P lv t j b n xt fn c9 D S := by
  have hD : j < D t := by omega
  have h := h0.cs
  have hcn1 : s_cs J0 t (3, 0, 0) 2 = Int32.ofNat n := by rw [jk_cs (3, 0, 0) 2 (by simp)]; exact hcn
  obtain ⟨rb, qf9, eo, ea⟩ := RB.of h hj tp r f s
  have eo2 : I (41, cd O t j, 0) i = 19 := eo.trans ho
  obtain ⟨q1, q2, q3, q4⟩ := q_bnd hD tp.tf.d tp.tf.le s
  have hp := tp.pi
  rw [ho, p_ins_19] at hp
  obtain ⟨e1, -⟩ := p_take_some hp
  subst e1
  by_cases hz : m_nf (s_cs J0 t) (f_pk (s_cs J0 t) t j 0) = 0
  · exact OUT.to2 h0 hj tp ho rfl (by rw [fo_19]; exact hz) (jo_19 h hj tp r f s hDn hcn1 ho hz)
  · obtain ⟨x0, x6⟩ := nf6 (by rw [n_pk tp.tf.d tp.tf.le]; exact tp.tf.ty.1 rfl) hz
    exact OUT2.fail h0 hj tp r f s hDn hcn ho (by rw [fo_19]; exact x6) (by decide) (ct_m_step_19n rb.a1 rb.a2 rb.a3 rb.a4 rb.a5 rb.a6 rb.a7 rb.a8 r.qt qf9 (q1 (by simp)) q3 (by rw [s.tp hD tp.tf.d tp.tf.le, n_tp tp.tf.d tp.tf.le, ← n_pk tp.tf.d tp.tf.le]; exact x0) eo2)
theorem jp_20 {J0 I : jc_I} {O P : jc_O} {live lv : jc_L → Prop} {S : Int} {t n0 j i b n xt fn c9 : Nat} {K K' : List Int32} (h0 : CX J0 O live S t n0) (hj : j + 1 = n0) (tp : TP (s_cs J0 t) t j (cd O t j) i K K') (r : RX I P lv t b n xt fn n0 c9) (f : FRc I P O t n0) (s : Sim t b n D (s_cs J0 t) I) (hDn : D t = n0) (hcn : J0 (3, 0, 0) 2 = Int32.ofNat n) (ho : (bk (s_cs J0 t)).op (cd O t j) i = 20) (hoha : m_oha J0 t j (cd O t j) = 0) : OUT2 J0 (s_cs J0 t) O live I P lv t j b n xt fn c9 D S := by
  have hD : j < D t := by omega
  have h := h0.cs
  have hcn1 : s_cs J0 t (3, 0, 0) 2 = Int32.ofNat n := by rw [jk_cs (3, 0, 0) 2 (by simp)]; exact hcn
  obtain ⟨rb, qf9, eo, ea⟩ := RB.of h hj tp r f s
  have eo2 : I (41, cd O t j, 0) i = 20 := eo.trans ho
  obtain ⟨q1, q2, q3, q4⟩ := q_bnd hD tp.tf.d tp.tf.le s
  have hp := tp.pi
  rw [ho, p_ins_20] at hp
  obtain ⟨e1, -⟩ := p_take_some hp
  subst e1
  by_cases hz : m_nf (s_cs J0 t) (f_pk (s_cs J0 t) t j 0) = 0
  · refine OUT.to2 h0 hj tp ho rfl (by rw [fo_20]; exact hz) (jo_20 h hj tp r f s hDn hcn1 ho hz ?_)
    have hx := m_nf0 hz
    have e2 := (tp.op h.C).1
    rw [ho] at e2
    rw [← oha_cs] at hoha
    unfold m_oha at hoha
    rw [e2] at hoha
    by_cases g1 : s_cs J0 t (7, (f_pk (s_cs J0 t) t j 0 - 1).toNatClampNeg, 0) 2 = -1
    · exact Or.inl g1
    · by_cases g2 : s_cs J0 t (7, (f_pk (s_cs J0 t) t j 0 - 1).toNatClampNeg, 0) 2 = s_cs J0 t (9, t, 0) 0
      · exact Or.inr g2
      · rw [if_pos ⟨rfl, hx, g1, g2⟩] at hoha
        rw [hoha] at hx
        exact absurd hx.1 (by decide)
  · obtain ⟨x0, x6⟩ := nf6 (by rw [n_pk tp.tf.d tp.tf.le]; exact tp.tf.ty.1 rfl) hz
    exact OUT2.fail h0 hj tp r f s hDn hcn ho (by rw [fo_20]; exact x6) (by decide) (ct_m_step_20 rb.a1 rb.a2 rb.a3 rb.a4 rb.a5 rb.a6 rb.a7 rb.a8 q_mk_live (ct_m_monitor_n r.qt qf9 (q1 (by simp)) q3 (by rw [s.tp hD tp.tf.d tp.tf.le, n_tp tp.tf.d tp.tf.le, ← n_pk tp.tf.d tp.tf.le]; exact x0)) (Or.inl eo2))
theorem jp_21 {J0 I : jc_I} {O P : jc_O} {live lv : jc_L → Prop} {S : Int} {t n0 j i b n xt fn c9 : Nat} {K K' : List Int32} (h0 : CX J0 O live S t n0) (hj : j + 1 = n0) (tp : TP (s_cs J0 t) t j (cd O t j) i K K') (r : RX I P lv t b n xt fn n0 c9) (f : FRc I P O t n0) (s : Sim t b n D (s_cs J0 t) I) (hDn : D t = n0) (hcn : J0 (3, 0, 0) 2 = Int32.ofNat n) (ho : (bk (s_cs J0 t)).op (cd O t j) i = 21) : OUT2 J0 (s_cs J0 t) O live I P lv t j b n xt fn c9 D S := by
  have hD : j < D t := by omega
  have h := h0.cs
  have hcn1 : s_cs J0 t (3, 0, 0) 2 = Int32.ofNat n := by rw [jk_cs (3, 0, 0) 2 (by simp)]; exact hcn
  obtain ⟨rb, qf9, eo, ea⟩ := RB.of h hj tp r f s
  have eo2 : I (41, cd O t j, 0) i = 21 := eo.trans ho
  obtain ⟨q1, q2, q3, q4⟩ := q_bnd hD tp.tf.d tp.tf.le s
  have hp := tp.pi
  rw [ho, p_ins_21] at hp
  obtain ⟨e1, -⟩ := p_take_some hp
  subst e1
  have etp : q_tp I t j = f_pk (s_cs J0 t) t j 0 := by rw [s.tp hD tp.tf.d tp.tf.le, n_tp tp.tf.d tp.tf.le, ← n_pk tp.tf.d tp.tf.le]
  by_cases hz : m_nf (s_cs J0 t) (f_pk (s_cs J0 t) t j 0) = 0
  · have hx := m_nf0 hz
    have efl : m_fo (s_cs J0 t) t j 21 = if s_cs J0 t (7, (f_pk (s_cs J0 t) t j 0 - 1).toNatClampNeg, 0) 2 = s_cs J0 t (9, t, 0) 0 then 0 else 8 := by
      rw [fo_21]
      unfold m_fl
      rw [if_pos hx]
    by_cases hm : s_cs J0 t (7, (f_pk (s_cs J0 t) t j 0 - 1).toNatClampNeg, 0) 2 = s_cs J0 t (9, t, 0) 0
    · exact OUT.to2 h0 hj tp ho rfl (by rw [efl, if_pos hm]) (jo_21 h hj tp r f s hDn hcn1 ho hx hm)
    · obtain ⟨k1, k2⟩ := ob_k hcn1 r.qt.n3 hx
      have s2 := s (7, (f_pk (s_cs J0 t) t j 0 - 1).toNatClampNeg, 0) 2 _ (mu72 k1)
      have s3 := s (7, (f_pk (s_cs J0 t) t j 0 - 1).toNatClampNeg, 0) 3 _ (mu73 k1)
      have s9 : s_cs J0 t (9, t, 0) 0 = I (14, t, 0) 0 := s (9, t, 0) 0 _ rfl
      exact OUT2.fail h0 hj tp r f s hDn hcn ho (by rw [efl, if_neg hm]) (by decide) (ct_m_step_20 rb.a1 rb.a2 rb.a3 rb.a4 rb.a5 rb.a6 rb.a7 rb.a8 q_mk_live (ct_m_monitor_f r.qt qf9 (q1 (by simp)) q3 (by rw [etp]; exact hx.1) (by rw [etp]; exact k1) eo2 (by rw [etp, ← s2, ← s3, ← s9]; rcases h.ho.th _ k2 with ⟨_, g⟩ | ⟨g1, g2, _⟩; exact Or.inr g; exact Or.inl ⟨by rw [jlt, j0I]; omega, hm⟩)) (Or.inr eo2))
  · obtain ⟨x0, x6⟩ := nf6 (by rw [n_pk tp.tf.d tp.tf.le]; exact tp.tf.ty.1 rfl) hz
    exact OUT2.fail h0 hj tp r f s hDn hcn ho (by rw [fo_21]; unfold m_fl; rw [if_neg (fun g => hz (if_pos g))]) (by decide) (ct_m_step_20 rb.a1 rb.a2 rb.a3 rb.a4 rb.a5 rb.a6 rb.a7 rb.a8 q_mk_live (ct_m_monitor_n r.qt qf9 (q1 (by simp)) q3 (etp.trans x0)) (Or.inr eo2))
theorem jp_18 {J0 I : jc_I} {O P : jc_O} {live lv : jc_L → Prop} {S : Int} {t n0 j i b n xt fn c9 : Nat} {K K' : List Int32} (h0 : CX J0 O live S t n0) (hj : j + 1 = n0) (tp : TP (s_cs J0 t) t j (cd O t j) i K K') (r : RX I P lv t b n xt fn n0 c9) (f : FRc I P O t n0) (s : Sim t b n D (s_cs J0 t) I) (hDn : D t = n0) (hcn : J0 (3, 0, 0) 2 = Int32.ofNat n) (ho : (bk (s_cs J0 t)).op (cd O t j) i = 18) (hqr : ∀ d, d < c9 → qr I d) : OUT2 J0 (s_cs J0 t) O live I P lv t j b n xt fn c9 D S := by
  have hD : j < D t := by omega
  have h := h0.cs
  have hcn1 : s_cs J0 t (3, 0, 0) 2 = Int32.ofNat n := by rw [jk_cs (3, 0, 0) 2 (by simp)]; exact hcn
  obtain ⟨rb, qf9, eo, ea⟩ := RB.of h hj tp r f s
  have eo2 : I (41, cd O t j, 0) i = 18 := eo.trans ho
  obtain ⟨q1, q2, q3, q4⟩ := q_bnd hD tp.tf.d tp.tf.le s
  have hp := tp.pi
  rw [ho, p_ins_18] at hp
  clear hp
  have hle := h.TH.le
  have hfc := h.TH.fc
  have e1 := jofI (n := n0) (by omega)
  by_cases hn : n0 < 30
  · exact OUT.to2 h0 hj tp ho rfl (by rw [fo_18, if_neg (by rw [hfc, jle, e1, show (30 : Int32).toInt = 30 from by decide]; omega)]) (jo_18 h hj tp r f s hDn hcn1 ho hn hqr)
  · have h30 : n0 = 30 := by omega
    subst h30
    exact OUT2.fail h0 hj tp r f s hDn hcn ho (by rw [fo_18, if_pos (by rw [hfc]; decide)]) (by decide) (ct_m_step_18 rb.a1 rb.a2 rb.a3 rb.a4 rb.a5 rb.a6 rb.a7 rb.a8 q_mk_live (ct_m_call_f r.qt r.qt.d) eo2)
theorem jp_22 {J0 I : jc_I} {O P : jc_O} {live lv : jc_L → Prop} {S : Int} {t n0 j i b n xt fn c9 : Nat} {K K' : List Int32} (h0 : CX J0 O live S t n0) (hj : j + 1 = n0) (tp : TP (s_cs J0 t) t j (cd O t j) i K K') (r : RX I P lv t b n xt fn n0 c9) (f : FRc I P O t n0) (s : Sim t b n D (s_cs J0 t) I) (hDn : D t = n0) (hcn : J0 (3, 0, 0) 2 = Int32.ofNat n) (ho : (bk (s_cs J0 t)).op (cd O t j) i = 22) (hrs : 0 ≤ (bk J0).res (cd O t j)) : OUT2 J0 (s_cs J0 t) O live I P lv t j b n xt fn c9 D S := by
  have hD : j < D t := by omega
  have h := h0.cs
  have hcn1 : s_cs J0 t (3, 0, 0) 2 = Int32.ofNat n := by rw [jk_cs (3, 0, 0) 2 (by simp)]; exact hcn
  obtain ⟨rb, qf9, eo, ea⟩ := RB.of h hj tp r f s
  by_cases hn : n0 = 1
  · exact OUT.to2 h0 hj tp ho rfl fo_22 (jo_22a h hj tp r f s hDn hcn1 ho hn)
  · refine OUT.to2 h0 hj tp ho rfl fo_22 (jo_22b h hj tp r f s hDn hcn1 ho (l := n0 - 2) (by omega) ?_)
    rw [jk_cs (6, _, _) 2 (by simp)]
    exact hrs
/-- a step is alike on both sides -/
theorem step_all {J0 I : jc_I} {O P : jc_O} {live lv : jc_L → Prop} {S : Int} {t n0 j b n xt fn c9 : Nat} (h0 : CX J0 O live S t n0) (hj : j + 1 = n0) (r : RX I P lv t b n xt fn n0 c9) (f : FRc I P O t n0) (s : Sim t b n D (s_cs J0 t) I) (hDn : D t = n0) (hcn : J0 (3, 0, 0) 2 = Int32.ofNat n) (hqr : ∀ d, d < c9 → qr I d) (hrs : 0 ≤ (bk J0).res (cd O t j)) (hoha : m_oha J0 t j (cd O t j) = 0) : OUT2 J0 (s_cs J0 t) O live I P lv t j b n xt fn c9 D S := by
  have h := h0.cs
  obtain ⟨i, K, K', tp⟩ := TP.of (h.TH.top j hj)
  have hi := h.C.ins _ i tp.tf.cn tp.lt
  obtain ⟨n9, h9, e9⟩ := op27 hi.1 hi.2.1
  rcases (show n9 = 0 ∨ n9 = 1 ∨ n9 = 2 ∨ n9 = 3 ∨ n9 = 4 ∨ n9 = 5 ∨ n9 = 6 ∨ n9 = 7 ∨ n9 = 8 ∨ n9 = 9 ∨ n9 = 10 ∨ n9 = 11 ∨ n9 = 12 ∨ n9 = 13 ∨ n9 = 14 ∨ n9 = 15 ∨ n9 = 16 ∨ n9 = 17 ∨ n9 = 18 ∨ n9 = 19 ∨ n9 = 20 ∨ n9 = 21 ∨ n9 = 22 ∨ n9 = 23 ∨ n9 = 24 ∨ n9 = 25 ∨ n9 = 26 by omega) with e | e | e | e | e | e | e | e | e | e | e | e | e | e | e | e | e | e | e | e | e | e | e | e | e | e | e <;> subst e
  · exact jp_0 h0 hj tp r f s hDn hcn e9
  · exact jp_1 h0 hj tp r f s hDn hcn e9
  · exact jp_2 h0 hj tp r f s hDn hcn e9
  · exact jp_3 h0 hj tp r f s hDn hcn e9
  · exact jp_4 h0 hj tp r f s hDn hcn e9
  · exact jp_5 h0 hj tp r f s hDn hcn e9
  · exact jp_6 h0 hj tp r f s hDn hcn e9
  · exact jp_7 h0 hj tp r f s hDn hcn e9
  · exact jp_8 h0 hj tp r f s hDn hcn e9
  · exact jp_9 h0 hj tp r f s hDn hcn e9
  · exact jp_10 h0 hj tp r f s hDn hcn e9
  · exact jp_11 h0 hj tp r f s hDn hcn e9
  · exact jp_12 h0 hj tp r f s hDn hcn e9
  · exact jp_13 h0 hj tp r f s hDn hcn e9
  · exact jp_14 h0 hj tp r f s hDn hcn e9
  · exact jp_15 h0 hj tp r f s hDn hcn e9
  · exact jp_16 h0 hj tp r f s hDn hcn e9
  · exact jp_17 h0 hj tp r f s hDn hcn e9
  · exact jp_18 h0 hj tp r f s hDn hcn e9 hqr
  · exact jp_19 h0 hj tp r f s hDn hcn e9
  · exact jp_20 h0 hj tp r f s hDn hcn e9 hoha
  · exact jp_21 h0 hj tp r f s hDn hcn e9
  · exact jp_22 h0 hj tp r f s hDn hcn e9 hrs
  · exact jp_23 h0 hj tp r f s hDn hcn e9
  · exact jp_24 h0 hj tp r f s hDn hcn e9
  · exact jp_25 h0 hj tp r f s hDn hcn e9
  · exact jp_26 h0 hj tp r f s hDn hcn e9
