def mkS (J : jc_I) (N T : Int32 → Prop) : Prop := ∀ p : Nat, p ≤ 60 → (J (25, 0, 0) p = 0 ∨ J (25, 0, 0) p = 1 ∨ J (25, 0, 0) p = 2) ∧ (J (25, 0, 0) p ≠ 0 ↔ N (Int32.ofNat p)) ∧ (J (25, 0, 0) p = 2 ↔ T (Int32.ofNat p))
theorem j60 {x : Int32} {p : Nat} (hp : p ≤ 60) : x = Int32.ofNat p ↔ (0 ≤ x ∧ x ≤ 60) ∧ p = x.toNatClampNeg := by
  have e1 := jofI (n := p) (by omega)
  have e2 : (60 : Int32).toInt = 60 := by decide
  constructor
  · intro e
    subst e
    rw [jle, jle, e1, e2, j0I, jofN (by omega)]
    omega
  · rintro ⟨⟨h1, h2⟩, h3⟩
    apply Int32.toInt_inj.mp
    rw [e1, h3, jNI h1]
theorem mkS.mark1 {J : jc_I} {N T : Int32 → Prop} (h : mkS J N T) (x : Int32) : mkS (g_mark J x 1) (fun p => N p ∨ x = p) T := by
  intro p hp
  obtain ⟨h1, h2, h3⟩ := h p hp
  dsimp only
  rw [j60 hp, ← h2, ← h3]
  unfold g_mark
  by_cases hx : 0 ≤ x ∧ x ≤ 60
  · rw [if_pos hx]
    by_cases e : p = x.toNatClampNeg
    · subst e
      rw [jc_up_s]
      rcases h1 with h1 | h1 | h1 <;> rw [h1] <;> simp [hx]
    · rw [jc_up_k _ _ _ _ _ _ e]
      exact ⟨h1, by simp [e], Iff.rfl⟩
  · rw [if_neg hx]
    exact ⟨h1, by simp only [hx, false_and, or_false], Iff.rfl⟩
theorem mkS.mark2 {J : jc_I} {N T : Int32 → Prop} (h : mkS J N T) (x : Int32) : mkS (g_mark J x 2) (fun p => N p ∨ x = p) (fun p => T p ∨ x = p) := by
  intro p hp
  obtain ⟨h1, h2, h3⟩ := h p hp
  dsimp only
  rw [j60 hp, ← h2, ← h3]
  unfold g_mark
  by_cases hx : 0 ≤ x ∧ x ≤ 60
  · rw [if_pos hx]
    by_cases e : p = x.toNatClampNeg
    · subst e
      rw [jc_up_s]
      rcases h1 with h1 | h1 | h1 <;> rw [h1] <;> simp [hx]
    · rw [jc_up_k _ _ _ _ _ _ e]
      exact ⟨h1, by simp [e], by simp [e]⟩
  · rw [if_neg hx]
    exact ⟨h1, by simp only [hx, false_and, or_false], by simp only [hx, false_and, or_false]⟩
theorem mkS.to {J : jc_I} {N T N' T' : Int32 → Prop} (h : mkS J N T) (h1 : ∀ p, N p ↔ N' p) (h2 : ∀ p, T p ↔ T' p) : mkS J N' T' := fun p hp => by
  obtain ⟨a, b, c⟩ := h p hp
  exact ⟨a, b.trans (h1 _), c.trans (h2 _)⟩
theorem mkS.m1 {c : Nat} : ∀ (m r : Nat) (J : jc_I) (N T : Int32 → Prop), mkS J N T → mkS (g_m1 c m r J) (fun p => N p ∨ ∃ i, r ≤ i ∧ i < r + m ∧ p_jmp ((bk J).op c i) ∧ (bk J).an c i = p) T
  | 0, r, J, N, T, h => h.to (fun p => ⟨Or.inl, fun g => g.elim id (fun ⟨i, a, b, _⟩ => absurd b (by omega))⟩) (fun _ => Iff.rfl)
  | m + 1, r, J, N, T, h => by
    rw [g_m1]
    by_cases hj : J (21, c, 0) r = 11 ∨ J (21, c, 0) r = 12 ∨ J (21, c, 0) r = 13
    · rw [if_pos hj]
      have e : bk (g_mark J (J (22, c, 0) r) 1) = bk J := jE_mark.bk
      refine (mkS.m1 m (r + 1) _ _ _ (h.mark1 (J (22, c, 0) r))).to (fun p => ?_) (fun _ => Iff.rfl)
      rw [e]
      constructor
      · rintro ((g | g) | ⟨i, a, b, g1, g2⟩)
        · exact Or.inl g
        · exact Or.inr ⟨r, Nat.le_refl _, by omega, hj, g⟩
        · exact Or.inr ⟨i, by omega, by omega, g1, g2⟩
      · rintro (g | ⟨i, a, b, g1, g2⟩)
        · exact Or.inl (Or.inl g)
        · by_cases ei : i = r
          · subst ei; exact Or.inl (Or.inr g2)
          · exact Or.inr ⟨i, by omega, by omega, g1, g2⟩
    · rw [if_neg hj]
      refine (mkS.m1 m (r + 1) _ _ _ h).to (fun p => ?_) (fun _ => Iff.rfl)
      constructor
      · rintro (g | ⟨i, a, b, g1, g2⟩)
        · exact Or.inl g
        · exact Or.inr ⟨i, by omega, by omega, g1, g2⟩
      · rintro (g | ⟨i, a, b, g1, g2⟩)
        · exact Or.inl g
        · by_cases ei : i = r
          · subst ei; exact absurd g1 hj
          · exact Or.inr ⟨i, by omega, by omega, g1, g2⟩
theorem mkS.m2 {c : Nat} : ∀ (m r : Nat) (J : jc_I) (N T : Int32 → Prop), mkS J N T → mkS (g_m2 c m r J) (fun p => N p ∨ ∃ i, r ≤ i ∧ i < r + m ∧ ((bk J).at_ c i = p ∨ (bk J).fr c i = p ∨ (bk J).to c i = p)) (fun p => T p ∨ ∃ i, r ≤ i ∧ i < r + m ∧ (bk J).at_ c i = p)
  | 0, r, J, N, T, h => h.to (fun p => ⟨Or.inl, fun g => g.elim id (fun ⟨i, a, b, _⟩ => absurd b (by omega))⟩) (fun p => ⟨Or.inl, fun g => g.elim id (fun ⟨i, a, b, _⟩ => absurd b (by omega))⟩)
  | m + 1, r, J, N, T, h => by
    rw [g_m2]
    have e : bk (g_mark (g_mark (g_mark J (J (5, c, r) 0) 1) (J (5, c, r) 1) 1) (J (5, c, r) 2) 2) = bk J := ((jE_mark.tr jE_mark).tr jE_mark).bk
    refine (mkS.m2 m (r + 1) _ _ _ (((h.mark1 (J (5, c, r) 0)).mark1 (J (5, c, r) 1)).mark2 (J (5, c, r) 2))).to (fun p => ?_) (fun p => ?_)
    · rw [e]
      constructor
      · rintro ((((g | g) | g) | g) | ⟨i, a, b, g1⟩)
        · exact Or.inl g
        · exact Or.inr ⟨r, Nat.le_refl _, by omega, Or.inr (Or.inl g)⟩
        · exact Or.inr ⟨r, Nat.le_refl _, by omega, Or.inr (Or.inr g)⟩
        · exact Or.inr ⟨r, Nat.le_refl _, by omega, Or.inl g⟩
        · exact Or.inr ⟨i, by omega, by omega, g1⟩
      · rintro (g | ⟨i, a, b, g1⟩)
        · exact Or.inl (Or.inl (Or.inl (Or.inl g)))
        · by_cases ei : i = r
          · subst ei
            rcases g1 with g1 | g1 | g1
            · exact Or.inl (Or.inr g1)
            · exact Or.inl (Or.inl (Or.inl (Or.inr g1)))
            · exact Or.inl (Or.inl (Or.inr g1))
          · exact Or.inr ⟨i, by omega, by omega, g1⟩
    · rw [e]
      constructor
      · rintro ((g | g) | ⟨i, a, b, g1⟩)
        · exact Or.inl g
        · exact Or.inr ⟨r, Nat.le_refl _, by omega, g⟩
        · exact Or.inr ⟨i, by omega, by omega, g1⟩
      · rintro (g | ⟨i, a, b, g1⟩)
        · exact Or.inl (Or.inl g)
        · by_cases ei : i = r
          · subst ei
            exact Or.inl (Or.inr g1)
          · exact Or.inr ⟨i, by omega, by omega, g1⟩
theorem mkS_marks {J : jc_I} {c : Nat} : mkS (g_marks J c) (p_lbl (bk J) c) (p_tkr (bk J) c) := by
  unfold g_marks
  have h0 : mkS (jc_zr J (25, 0, 0) 61 0) (fun _ => False) (fun _ => False) := by
    intro p hp
    have e : jc_zr J (25, 0, 0) 61 0 (25, 0, 0) p = 0 := if_pos ⟨rfl, by omega⟩
    rw [e]
    exact ⟨Or.inl rfl, by simp, by simp⟩
  have e1 : bk (jc_zr J (25, 0, 0) 61 0) = bk J := (jE.zr (Or.inr ⟨by decide, by decide⟩)).bk
  have e2 : ∀ m r, bk (g_m1 c m r (jc_zr J (25, 0, 0) 61 0)) = bk J := fun m r => (jE_m1 m r _).bk.trans e1
  refine ((h0.m1 _ _ _ _ _).m2 _ _ _ _ _).to (fun p => ?_) (fun p => ?_)
  · rw [e2, e1]
    unfold p_lbl
    constructor
    · rintro ((g | ⟨i, a, b, g1, g2⟩) | ⟨i, a, b, g1⟩)
      · exact absurd g id
      · exact Or.inr ⟨i, by rw [Nat.zero_add] at b; exact b, g1, g2⟩
      · exact Or.inl ⟨i, by rw [Nat.zero_add] at b; exact b, g1⟩
    · rintro (⟨i, b, g1⟩ | ⟨i, b, g1, g2⟩)
      · exact Or.inr ⟨i, Nat.zero_le _, by rw [Nat.zero_add]; exact b, g1⟩
      · exact Or.inl (Or.inr ⟨i, Nat.zero_le _, by rw [Nat.zero_add]; exact b, g1, g2⟩)
  · rw [e2]
    unfold p_tkr
    constructor
    · rintro (g | ⟨i, a, b, g1⟩)
      · exact absurd g id
      · exact ⟨i, by rw [Nat.zero_add] at b; exact b, g1⟩
    · rintro ⟨i, b, g1⟩
      exact Or.inr ⟨i, Nat.zero_le _, by rw [Nat.zero_add]; exact b, g1⟩
def jF (J J' : jc_I) : Prop := ∀ q k, q.1 ≠ 2 → q.1 ≠ 26 → J' q k = J q k
theorem jF.rf {I : jc_I} : jF I I := fun _ _ _ _ => rfl
theorem jF.tr {I J K : jc_I} (h : jF I J) (h2 : jF J K) : jF I K := fun q k a b => (h2 q k a b).trans (h q k a b)
theorem jF.up {I : jc_I} {q : jc_L} {k : Nat} {v : Int32} (h : q.1 = 2 ∨ q.1 = 26) : jF I (jc_up I q k v) := fun q' k' a b => jc_up_q _ _ _ _ _ _ (fun e => by subst e; rcases h with h | h; exact a h; exact b h)
theorem jF.ite {I J K : jc_I} {p : Prop} [Decidable p] (h1 : jF I J) (h2 : jF I K) : jF I (if p then J else K) := by split; exact h1; exact h2
theorem jF_dem {I : jc_I} {b : Int32} : jF I (g_dem I b) := jF.up (Or.inl rfl)
theorem jF_give {I : jc_I} {k : Int32} : jF I (g_give I k) := jF.ite jF_dem ((jF.up (Or.inr rfl)).tr (jF.up (Or.inl rfl)))
theorem jF_take {I : jc_I} {k : Int32} : jF I (g_take I k) := jF.ite jF_dem (jF.up (Or.inl rfl))
theorem jF_leave {I : jc_I} {p : Int32} : jF I (g_leave I p) := jF_dem
theorem jF_arr {I : jc_I} {p b : Int32} : jF I (g_arr I p b) := jF.ite jF_dem (jF.ite ((jF_dem.tr (jF.up (Or.inl rfl))).tr jF_give) (jF_dem.tr (jF.up (Or.inl rfl))))
theorem jF_use {I : jc_I} {op : Int32} : jF I (g_use I op) := by
  unfold g_use
  dsimp only
  have h : jF I (g_take (if op = 17 then g_take I 1 else if op = 24 then g_take I 2 else I) 2) := (jF.ite jF_take (jF.ite jF_take jF.rf)).tr jF_take
  exact jF.ite (h.tr jF_give) (jF.ite (h.tr jF_give) h)
theorem jF_ret {I : jc_I} {c : Nat} : jF I (g_ret I c) := (jF.ite jF_take jF.rf).tr jF_dem
theorem jF_par {d : Nat} : ∀ (m : Nat) (i : Int32) (J : jc_I), jF J (g_par d m i J)
  | 0, _, _ => jF.rf
  | m + 1, i, J => jF_take.tr (jF_par m (i - 1) _)
theorem jF_call {J : jc_I} {a : Int32} : jF J (g_call J a) := jF.ite ((jF_par _ _ _).tr (jF.ite jF_give jF.rf)) jF_dem
theorem jF_fol {J : jc_I} {c : Nat} {op a : Int32} : jF J (g_fol J c op a) := by
  unfold g_fol
  exact jF.ite jF_give (jF.ite jF_give (jF.ite jF_take (jF.ite jF_give (jF.ite ((jF_take.tr jF_take).tr jF_give) (jF.ite jF_give (jF.ite jF_take (jF.ite jF_leave (jF.ite (jF_take.tr jF_leave) (jF.ite (jF_take.tr jF_leave) (jF.ite jF_use (jF.ite jF_call (jF.ite jF_take (jF.ite jF_ret jF_dem)))))))))))))
theorem jF_st {J : jc_I} {c : Nat} {i : Int32} : jF J (g_st J c i) := jF_arr.tr jF_fol
theorem jF.bk {J J' : jc_I} (h : jF J J') : bk J' = bk J := bk_eq (fun q k hq => h q k (by omega) (by omega))
theorem jF.mk {J J' : jc_I} (h : jF J J') {N T : Int32 → Prop} (hm : mkS J N T) : mkS J' N T := fun p hp => by rw [h (25, 0, 0) p (by simp) (by simp)]; exact hm p hp
