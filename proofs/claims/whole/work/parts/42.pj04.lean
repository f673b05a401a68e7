theorem jkN_par {d : Nat} : ∀ (m : Nat) (i : Int32) (J : jc_I), jkO J none → jkO (g_par d m i J) none
  | 0, _, _, h => h
  | m + 1, i, _, h => jkN_par m (i - 1) _ (jkO_take h)
theorem jkN_ite {J J' : jc_I} {p : Prop} [Decidable p] (h1 : jkO J none) (h2 : jkO J' none) : jkO (if p then J else J') none := by split; exact h1; exact h2
theorem jkN_fol {J : jc_I} {c : Nat} {op a : Int32} (h : jkO J none) : jkO (g_fol J c op a) none := by
  have g : ∀ {J : jc_I} {k : Int32}, jkO J none → jkO (g_give J k) none := fun h => jkO_give h
  have t : ∀ {J : jc_I} {k : Int32}, jkO J none → jkO (g_take J k) none := fun h => jkO_take h
  have d : ∀ {J : jc_I} {k : Int32}, jkO J none → jkO (g_dem J k) none := fun h => jkO_dem h
  unfold g_fol
  refine jkN_ite (g h) (jkN_ite (g h) (jkN_ite (t h) (jkN_ite (g h) (jkN_ite (g (t (t h))) (jkN_ite (g h) (jkN_ite (t h) (jkN_ite (d h) (jkN_ite (d (t h)) (jkN_ite (d (t h)) (jkN_ite ?_ (jkN_ite ?_ (jkN_ite (t h) (jkN_ite ?_ (d h))))))))))))))
  · unfold g_use
    dsimp only
    have h9 := t (k := 2) (jkN_ite (p := op = 17) (t (k := 1) h) (jkN_ite (p := op = 24) (t (k := 2) h) h))
    exact jkN_ite (g h9) (jkN_ite (g h9) h9)
  · unfold g_call g_fc g_fin
    exact jkN_ite (jkN_ite (g (jkN_par _ _ _ h)) (jkN_par _ _ _ h)) (d h)
  · unfold g_ret
    dsimp only
    exact d (jkN_ite (t h) h)
def jPar (J : jc_I) : Prop := ∀ d : Nat, (d : Int) < (J (1, 0, 0) 1).toInt → 0 ≤ J (6, d, 0) 1 ∧ J (6, d, 0) 1 ≤ 8
theorem jF.pr {J J' : jc_I} (h : jF J J') (hp : jPar J) : jPar J' := by
  intro d hd
  rw [h _ _ (by simp) (by simp)] at hd
  rw [h _ _ (by simp) (by simp)]
  exact hp d hd
theorem jkO_st {J : jc_I} {x : Option (List Int32)} {c r : Nat} (h : jkO J x) (hm : mkS J (p_lbl (bk J) c) (p_tkr (bk J) c)) (hr : r ≤ 60) (hj : p_jmp ((bk J).op c r) → 0 ≤ (bk J).an c r ∧ (bk J).an c r ≤ 60) (hA : jPar J) : jkO (g_st J c (Int32.ofNat r)) ((x.bind (p_arr (bk J) c r)).bind (p_ins (bk J) c ((bk J).op c r) ((bk J).an c r))) := by
  unfold g_st
  dsimp only
  have h1 := jkO_arr (c := c) (i := r) h hm hr
  have hF : jF J (g_arr J (Int32.ofNat r) (g_b J c (Int32.ofNat r))) := jF_arr
  rw [jofN (by omega), hF _ _ (by simp) (by simp), hF _ _ (by simp) (by simp)]
  have hb := hF.bk
  generalize hJ : g_arr J (Int32.ofNat r) (g_b J c (Int32.ofNat r)) = J1 at *
  cases hx : x.bind (p_arr (bk J) c r) with
  | none =>
    rw [hx] at h1
    exact jkN_fol h1
  | some K =>
    rw [hx] at h1
    have := jkO_fol (c := c) (op := J (21, c, 0) r) (a := J (22, c, 0) r) h1 (by rw [hb]; exact hF.mk hm) hj (hF.pr hA)
    rw [hb] at this
    exact this
theorem p_run_none {B : jc_B} {c : Nat} : ∀ (m r : Nat), p_run B c r = none → p_run B c (r + m) = none
  | 0, _, h => h
  | m + 1, r, h => by
    rw [← Nat.add_assoc, p_run, p_run_none m r h]
    rfl
theorem jkO_lp {c : Nat} : ∀ (m r : Nat) (J : jc_I), jkO J (p_run (bk J) c r) → mkS J (p_lbl (bk J) c) (p_tkr (bk J) c) → r + m ≤ 60 → (∀ i, i < r + m → p_jmp ((bk J).op c i) → 0 ≤ (bk J).an c i ∧ (bk J).an c i ≤ 60) → jPar J → jkO (g_lp c m (Int32.ofNat r) J) (p_run (bk J) c (r + m))
  | 0, _, _, h, _, _, _, _ => h
  | m + 1, r, J, h, hm, hr, hj, hA => by
    rw [g_lp]
    by_cases h0 : J (2, 0, 0) 7 = 0
    · rw [if_pos h0]
      cases hx : p_run (bk J) c r with
      | none => rw [p_run_none _ _ hx]; exact h0
      | some K =>
        rw [hx] at h
        exact absurd (h.1.symm.trans h0) (by decide)
    · rw [if_neg h0, jof1 (by omega)]
      have h1 := jkO_st h hm (by omega) (hj r (by omega)) hA
      have hF : jF J (g_st J c (Int32.ofNat r)) := jF_st
      have hb := hF.bk
      have := jkO_lp (c := c) m (r + 1) (g_st J c (Int32.ofNat r)) (by rw [hb]; exact h1) (by rw [hb]; exact hF.mk hm) (by omega) (by rw [hb]; intro i hi; exact hj i (by omega)) (hF.pr hA)
      rw [hb] at this
      rw [show r + (m + 1) = r + 1 + m from by omega]
      exact this
theorem g_njp_iff {J : jc_I} {c : Nat} : ∀ (m r : Nat), g_njp J c m r ≠ 0 ↔ ∀ i, r ≤ i → i < r + m → p_jmp ((bk J).op c i) → p_place (bk J) c ((bk J).an c i)
  | 0, r => ⟨fun _ i a b => absurd b (by omega), fun _ => by show (1 : Int32) ≠ 0; decide⟩
  | m + 1, r => by
    rw [g_njp]
    by_cases h : (J (21, c, 0) r = 11 ∨ J (21, c, 0) r = 12 ∨ J (21, c, 0) r = 13) ∧ ¬ (0 ≤ J (22, c, 0) r ∧ J (22, c, 0) r < J (6, c, 0) 8)
    · rw [if_pos h]
      exact ⟨fun g => absurd rfl g, fun g => absurd (g r (Nat.le_refl _) (by omega) h.1) h.2⟩
    · rw [if_neg h, g_njp_iff m (r + 1)]
      constructor
      · intro g i a b hj
        by_cases e : i = r
        · subst e
          exact Classical.byContradiction (fun n => h ⟨hj, n⟩)
        · exact g i (by omega) (by omega) hj
      · intro g i a b hj
        exact g i (by omega) (by omega) hj
theorem g_nrp_iff {J : jc_I} {c : Nat} : ∀ (m r : Nat), g_nrp J c m r ≠ 0 ↔ ∀ i, r ≤ i → i < r + m → (bk J).fr c i < (bk J).to c i ∧ (bk J).to c i ≤ (bk J).sz c ∧ p_place (bk J) c ((bk J).at_ c i)
  | 0, r => ⟨fun _ i a b => absurd b (by omega), fun _ => by show (1 : Int32) ≠ 0; decide⟩
  | m + 1, r => by
    rw [g_nrp]
    have key : (J (5, c, r) 1 ≤ J (5, c, r) 0 ∨ J (6, c, 0) 8 < J (5, c, r) 1 ∨ ¬ (0 ≤ J (5, c, r) 2 ∧ J (5, c, r) 2 < J (6, c, 0) 8)) ↔ ¬ ((bk J).fr c r < (bk J).to c r ∧ (bk J).to c r ≤ (bk J).sz c ∧ p_place (bk J) c ((bk J).at_ c r)) := by
      show _ ↔ ¬ (J (5, c, r) 0 < J (5, c, r) 1 ∧ J (5, c, r) 1 ≤ J (6, c, 0) 8 ∧ (0 ≤ J (5, c, r) 2 ∧ J (5, c, r) 2 < J (6, c, 0) 8))
      grind
    by_cases h : J (5, c, r) 1 ≤ J (5, c, r) 0 ∨ J (6, c, 0) 8 < J (5, c, r) 1 ∨ ¬ (0 ≤ J (5, c, r) 2 ∧ J (5, c, r) 2 < J (6, c, 0) 8)
    · rw [if_pos h]
      exact ⟨fun g => absurd rfl g, fun g => absurd (g r (Nat.le_refl _) (by omega)) (key.mp h)⟩
    · rw [if_neg h, g_nrp_iff m (r + 1)]
      constructor
      · intro g i a b
        by_cases e : i = r
        · subst e
          exact Classical.byContradiction (fun n => h (key.mpr n))
        · exact g i (by omega) (by omega)
      · intro g i a b
        exact g i (by omega) (by omega)
theorem g_good_iff {J : jc_I} {c : Nat} (hA : jPar J) (hn : jw_n J c) : g_good J c (2, 0, 0) 7 = 1 ↔ p_good (bk J) c := by
  obtain ⟨n1, n2, n3, n4, n5, n6⟩ := hn
  unfold g_good p_good
  have e60 : (60 : Int32).toInt = 60 := by decide
  have hsz : (J (6, c, 0) 8).toNatClampNeg ≤ 60 := by have := jNI n3; rw [jle, e60] at n4; omega
  have h0 : g_g0 J c = 0 ↔ ¬ (0 < (bk J).sz c ∧ p_lst ((bk J).op c ((bk J).sz c - 1).toNatClampNeg) ∧ (bk J).par c ≤ (bk J).lc c ∧ p_jmps (bk J) c ∧ p_rows (bk J) c) := by
    unfold g_g0
    have e1 : g_njp J c (J (6, c, 0) 8).toNatClampNeg 0 ≠ 0 ↔ p_jmps (bk J) c := (g_njp_iff _ _).trans ⟨fun g i hi => g i (Nat.zero_le _) (by rw [Nat.zero_add]; exact hi), fun g i _ hi => g i (by rw [Nat.zero_add] at hi; exact hi)⟩
    have e2 : g_nrp J c (J (6, c, 0) 9).toNatClampNeg 0 ≠ 0 ↔ p_rows (bk J) c := (g_nrp_iff _ _).trans ⟨fun g i hi => g i (Nat.zero_le _) (by rw [Nat.zero_add]; exact hi), fun g i _ hi => g i (by rw [Nat.zero_add] at hi; exact hi)⟩
    rw [← e1, ← e2]
    show (if 0 < J (6, c, 0) 8 ∧ (J (21, c, 0) (J (6, c, 0) 8 - 1).toNatClampNeg = 11 ∨ J (21, c, 0) (J (6, c, 0) 8 - 1).toNatClampNeg = 19 ∨ J (21, c, 0) (J (6, c, 0) 8 - 1).toNatClampNeg = 22) ∧ J (6, c, 0) 1 ≤ J (6, c, 0) 7 ∧ g_njp J c (J (6, c, 0) 8).toNatClampNeg 0 ≠ 0 ∧ g_nrp J c (J (6, c, 0) 9).toNatClampNeg 0 ≠ 0 then (1 : Int32) else 0) = 0 ↔ ¬ (0 < J (6, c, 0) 8 ∧ (J (21, c, 0) (J (6, c, 0) 8 - 1).toNatClampNeg = 11 ∨ J (21, c, 0) (J (6, c, 0) 8 - 1).toNatClampNeg = 19 ∨ J (21, c, 0) (J (6, c, 0) 8 - 1).toNatClampNeg = 22) ∧ J (6, c, 0) 1 ≤ J (6, c, 0) 7 ∧ g_njp J c (J (6, c, 0) 8).toNatClampNeg 0 ≠ 0 ∧ g_nrp J c (J (6, c, 0) 9).toNatClampNeg 0 ≠ 0)
    split
    · rename_i hp; exact ⟨fun g => absurd g (by decide), fun g => absurd hp g⟩
    · rename_i hp; exact ⟨fun _ => hp, fun _ => rfl⟩
  by_cases hg : g_g0 J c = 0
  · rw [if_pos hg, jc_up_s]
    refine ⟨fun g => absurd g (by decide), fun g => absurd ⟨g.1, g.2.1, g.2.2.1, g.2.2.2.1, g.2.2.2.2.1⟩ (h0.mp hg)⟩
  · rw [if_neg hg]
    have hG := Classical.not_not.mp (fun n => hg (h0.mpr n))
    have hE : jE J (jc_up (g_marks (jc_up J (2, 0, 0) 7 1) c) (2, 0, 0) 6 0) := ((jE.up (Or.inl rfl)).tr jE_marks).tr (jE.up (Or.inl rfl))
    have hb := hE.bk
    have hb1 : bk (jc_up J (2, 0, 0) 7 1) = bk J := (jE.up (Or.inl rfl)).bk
    have hm : mkS (jc_up (g_marks (jc_up J (2, 0, 0) 7 1) c) (2, 0, 0) 6 0) (p_lbl (bk J) c) (p_tkr (bk J) c) := by
      have := mkS_marks (J := jc_up J (2, 0, 0) 7 1) (c := c)
      rw [hb1] at this
      intro p hp
      rw [jc_up_t _ _ _ _ _ _ _ _ (by decide)]
      exact this p hp
    have hk : jkO (jc_up (g_marks (jc_up J (2, 0, 0) 7 1) c) (2, 0, 0) 6 0) (p_run (bk (jc_up (g_marks (jc_up J (2, 0, 0) 7 1) c) (2, 0, 0) 6 0)) c 0) := ⟨by rw [jc_up_k _ _ _ _ _ _ (by decide), g_marks_ne rfl, jc_up_s], by rw [jc_up_s]; rfl, by decide, trivial⟩
    have := jkO_lp (c := c) (J (6, c, 0) 8).toNatClampNeg 0 _ hk (by rw [hb]; exact hm) (by omega) (by
      rw [hb]
      intro i hi hj
      have hp := hG.2.2.2.1 i (by rw [Nat.zero_add] at hi; exact hi) hj
      refine ⟨hp.1, ?_⟩
      have h2 := jlt.mp hp.2
      have h3 := jle.mp n4
      rw [jle]
      show ((bk J).an c i).toInt ≤ _
      have h4 : ((bk J).sz c).toInt = (J (6, c, 0) 8).toInt := rfl
      omega) (by
      intro d hd
      rw [hE _ _ (by simp) (by simp)] at hd
      rw [hE _ _ (by simp) (by simp)]
      exact hA d hd)
    rw [hb, Nat.zero_add] at this
    show g_lp c (J (6, c, 0) 8).toNatClampNeg (Int32.ofNat 0) _ (2, 0, 0) 7 = 1 ↔ _
    cases hx : p_run (bk J) c (J (6, c, 0) 8).toNatClampNeg with
    | none =>
      rw [hx] at this
      constructor
      · intro g; rw [show g_lp c (J (6, c, 0) 8).toNatClampNeg (Int32.ofNat 0) _ (2, 0, 0) 7 = 0 from this] at g; exact absurd g (by decide)
      · intro g
        have := g.2.2.2.2.2
        rw [show p_run (bk J) c ((bk J).sz c).toNatClampNeg = none from hx] at this
        cases this
    | some K =>
      rw [hx] at this
      refine ⟨fun _ => ⟨hG.1, hG.2.1, hG.2.2.1, hG.2.2.2.1, hG.2.2.2.2, ?_⟩, fun _ => this.1⟩
      rw [show p_run (bk J) c ((bk J).sz c).toNatClampNeg = some K from hx]
      rfl
