theorem q_b_iff {I : jc_I} {c r : Nat} : q_b I c r ≠ 0 ↔ p_on (bq I) c r := by
  unfold q_b p_on p_lst
  show (if r = 0 ∨ ¬ (I (41, c, 0) (r - 1) = 11 ∨ I (41, c, 0) (r - 1) = 19 ∨ I (41, c, 0) (r - 1) = 22) then (1 : Int32) else 0) ≠ 0 ↔ r = 0 ∨ ¬ (I (41, c, 0) (r - 1) = 11 ∨ I (41, c, 0) (r - 1) = 19 ∨ I (41, c, 0) (r - 1) = 22)
  split
  · rename_i h; exact ⟨fun _ => h, fun _ => by decide⟩
  · rename_i h; exact ⟨fun g => absurd rfl g, fun g => absurd g h⟩
theorem rk_ar {I : jc_I} {K : List Int32} {c r : Nat} (h : rkK I K) : rkO (q_ar I c r (q_b I c r)) (p_arr (bq I) c r K) := by
  have hb := q_b_iff (I := I) (c := c) (r := r)
  have hl := q_lb_iff (I := I) (c := c) (p := Int32.ofNat r)
  have ht := q_tkr_iff (I := I) (c := c) (p := Int32.ofNat r)
  unfold q_ar p_arr
  by_cases ho : p_on (bq I) c r
  · have hb1 : q_b I c r ≠ 0 := hb.mpr ho
    rw [if_neg (fun g => hb1 g.1), if_pos ho]
    by_cases htk : p_tkr (bq I) c (Int32.ofNat r)
    · rw [if_neg (ht.mpr htk), if_neg hb1, if_neg (show ¬ (¬ p_lbl (bq I) c (Int32.ofNat r) ∨ (¬ p_tkr (bq I) c (Int32.ofNat r) ∧ K = [])) from fun g => g.elim (fun g => g htk.lbl) (fun g => g.1 htk))]
      rfl
    · rw [if_pos (Classical.not_not.mp (fun g => htk (ht.mp g)))]
      by_cases hlb : p_lbl (bq I) c (Int32.ofNat r)
      · rw [if_neg (hl.mpr hlb)]
        by_cases hK : K = []
        · rw [if_neg (show ¬ (q_b I c r ≠ 0 ∧ 0 < I (10, 0, 0) 8) from fun g => h.d0.2.mp g.2 hK), if_pos (show ¬ p_lbl (bq I) c (Int32.ofNat r) ∨ (¬ p_tkr (bq I) c (Int32.ofNat r) ∧ K = []) from Or.inr ⟨htk, hK⟩)]
          subst hK
          have hk : rkK (jc_up I (10, 0, 0) 8 0) [] := ⟨jc_up_s _ _ _ _, by decide, trivial, fun y hy => absurd hy List.not_mem_nil⟩
          exact ⟨rfl, hk⟩
        · rw [if_pos ⟨hb1, h.d0.2.mpr hK⟩, if_neg (show ¬ (¬ p_lbl (bq I) c (Int32.ofNat r) ∨ (¬ p_tkr (bq I) c (Int32.ofNat r) ∧ K = [])) from fun g => g.elim (fun g => g hlb) (fun g => hK g.2))]
          rfl
      · rw [if_pos (Classical.not_not.mp (fun g => hlb (hl.mp g))), if_pos (show ¬ p_lbl (bq I) c (Int32.ofNat r) ∨ (¬ p_tkr (bq I) c (Int32.ofNat r) ∧ K = []) from Or.inl hlb)]
        exact ⟨rfl, h⟩
  · have hb0 : q_b I c r = 0 := Classical.not_not.mp (fun g => ho (hb.mp g))
    rw [if_neg ho]
    by_cases hlb : p_lbl (bq I) c (Int32.ofNat r)
    · rw [if_neg (fun g => hl.mpr hlb g.2), if_pos hlb]
      by_cases htk : p_tkr (bq I) c (Int32.ofNat r)
      · rw [if_neg (ht.mpr htk), if_pos hb0, if_pos htk]
        have hk : rkK (jc_up (jc_up I (51, 0, 0) 0 2) (10, 0, 0) 8 1) [2] := by
          refine ⟨jc_up_s _ _ _ _, by decide, ⟨?_, trivial⟩, fun y hy => ?_⟩
          · rw [jc_up_t _ _ _ _ _ _ _ _ (by decide)]; exact jc_up_s _ _ _ _
          · rw [List.mem_singleton.mp hy]; decide
        exact ⟨rfl, hk⟩
      · rw [if_pos (Classical.not_not.mp (fun g => htk (ht.mp g))), if_neg (hl.mpr hlb), if_neg (show ¬ (q_b I c r ≠ 0 ∧ 0 < I (10, 0, 0) 8) from fun g => g.1 hb0), if_neg htk]
        have hk : rkK (jc_up I (10, 0, 0) 8 0) [] := ⟨jc_up_s _ _ _ _, by decide, trivial, fun y hy => absurd hy List.not_mem_nil⟩
        exact ⟨rfl, hk⟩
    · rw [if_pos ⟨hb0, Classical.not_not.mp (fun g => hlb (hl.mp g))⟩, if_neg hlb]
      rfl
theorem q_gs_np {I : jc_I} {c : Nat} {op a : Int32} (hj : p_jmp op) (hp : ¬ p_place (bq I) c a) : (q_gs I c op a).1 = 0 := by
  have tb : ∀ {J : jc_I} {k : Int32}, bq (q_tk J k).2 = bq J := fun {J k} => qE_tk.bkq
  unfold q_gs
  rcases hj with e | e | e <;> subst e
  · simp +decide only [if_true, if_false]
    exact rk_tgN hp
  · simp +decide only [if_true, if_false]
    unfold q_and
    split
    · rfl
    · exact rk_tgN (by rw [tb]; exact hp)
  · simp +decide only [if_true, if_false]
    unfold q_and
    split
    · rfl
    · exact rk_tgN (by rw [tb]; exact hp)
theorem rk_gl {c : Nat} : ∀ (m r : Nat) (I : jc_I) (K : List Int32), rkK I K → p_run (bq I) c r = some K → (∀ i, i < r + m → 0 ≤ (bq I).op c i ∧ (bq I).op c i ≤ 26) → (∀ i, p_lk (bq I) c i = 0 ∨ 0 < p_lk (bq I) c i) → ((q_gl c m r I).1 = 1 ↔ (p_run (bq I) c (r + m)).isSome ∧ ∀ i, r ≤ i → i < r + m → p_jmp ((bq I).op c i) → p_place (bq I) c ((bq I).an c i))
  | 0, r, I, K, h, hr, _, _ => by
    show (1 : Int32) = 1 ↔ _
    rw [Nat.add_zero, hr]
    exact ⟨fun _ => ⟨rfl, fun i a b => absurd b (by omega)⟩, fun _ => rfl⟩
  | m + 1, r, I, K, h, hr, hop, hl => by
    rw [q_gl]
    have eb : bq (q_ar I c r (q_b I c r)).2 = bq I := qE_ar.bkq
    have ei : bq (q_is I c r (q_b I c r)).2 = bq I := qE_is.bkq
    by_cases hj : p_jmp ((bq I).op c r) ∧ ¬ p_place (bq I) c ((bq I).an c r)
    · have h0 : (q_is I c r (q_b I c r)).1 = 0 := by
        unfold q_is q_and
        split
        · rfl
        · exact q_gs_np hj.1 (by rw [eb]; exact hj.2)
      have : (q_and (q_is I c r (q_b I c r)) (fun J => q_gl c m (r + 1) J)).1 = 0 := by
        unfold q_and
        rw [if_pos h0]
      rw [this]
      exact ⟨fun g => absurd g (by decide), fun g => absurd (g.2 r (Nat.le_refl _) (by omega) hj.1) hj.2⟩
    · have hs : rkO (q_is I c r (q_b I c r)) (p_run (bq I) c (r + 1)) := by
        rw [p_run, hr]
        unfold q_is
        refine rk_and (rk_ar h) (fun K1 _ h1 => ?_)
        have := rk_gs (c := c) (op := I (41, c, 0) r) (a := I (42, c, 0) r) h1 (hop r (by omega)).1 (hop r (by omega)).2 (fun g => by rw [eb]; exact Classical.not_not.mp (fun n => hj ⟨g, n⟩)) (by rw [eb]; exact hl)
        rw [eb] at this
        exact this
      cases hx : p_run (bq I) c (r + 1) with
      | none =>
        rw [hx] at hs
        have : (q_and (q_is I c r (q_b I c r)) (fun J => q_gl c m (r + 1) J)).1 = 0 := by
          unfold q_and
          rw [if_pos (show (q_is I c r (q_b I c r)).1 = 0 from hs)]
        rw [this]
        refine ⟨fun g => absurd g (by decide), fun g => ?_⟩
        have h9 := p_run_none (B := bq I) (c := c) m (r + 1) hx
        rw [show r + (m + 1) = r + 1 + m from by omega, h9] at g
        cases g.1
      | some K1 =>
        rw [hx] at hs
        have : q_and (q_is I c r (q_b I c r)) (fun J => q_gl c m (r + 1) J) = q_gl c m (r + 1) (q_is I c r (q_b I c r)).2 := if_neg (by rw [hs.1]; decide)
        rw [this]
        have h9 := rk_gl (c := c) m (r + 1) (q_is I c r (q_b I c r)).2 K1 hs.2 (by rw [ei]; exact hx) (by rw [ei]; intro i hi; exact hop i (by omega)) (by rw [ei]; exact hl)
        rw [h9, ei, show r + (m + 1) = r + 1 + m from by omega]
        constructor
        · rintro ⟨g1, g2⟩
          refine ⟨g1, fun i a b g => ?_⟩
          by_cases e : i = r
          · subst e; exact Classical.not_not.mp (fun n => hj ⟨g, n⟩)
          · exact g2 i (by omega) b g
        · rintro ⟨g1, g2⟩
          exact ⟨g1, fun i a b g => g2 i (by omega) b g⟩
theorem q_rw01 {I : jc_I} {c : Nat} : ∀ m r, q_rw I c m r ≠ 0 ↔ ∀ i, r ≤ i → i < r + m → (bq I).fr c i < (bq I).to c i ∧ (bq I).to c i ≤ (bq I).sz c ∧ (bq I).at_ c i < (bq I).sz c
  | 0, r => ⟨fun _ i a b => absurd b (by omega), fun _ => by show (1 : Int32) ≠ 0; decide⟩
  | m + 1, r => by
    rw [q_rw]
    have key : (I (44, c, 0) r ≤ I (43, c, 0) r ∨ I (11, c, 0) 6 < I (44, c, 0) r ∨ I (11, c, 0) 6 ≤ I (45, c, 0) r) ↔ ¬ ((bq I).fr c r < (bq I).to c r ∧ (bq I).to c r ≤ (bq I).sz c ∧ (bq I).at_ c r < (bq I).sz c) := by
      show _ ↔ ¬ (I (43, c, 0) r < I (44, c, 0) r ∧ I (44, c, 0) r ≤ I (11, c, 0) 6 ∧ I (45, c, 0) r < I (11, c, 0) 6)
      grind
    by_cases h : I (44, c, 0) r ≤ I (43, c, 0) r ∨ I (11, c, 0) 6 < I (44, c, 0) r ∨ I (11, c, 0) 6 ≤ I (45, c, 0) r
    · rw [if_pos h]
      exact ⟨fun g => absurd rfl g, fun g => absurd (g r (Nat.le_refl _) (by omega)) (key.mp h)⟩
    · rw [if_neg h, q_rw01 m (r + 1)]
      constructor
      · intro g i a b
        by_cases e : i = r
        · subst e; exact Classical.byContradiction (fun n => h (key.mpr n))
        · exact g i (by omega) (by omega)
      · intro g i a b
        exact g i (by omega) (by omega)
theorem q_good_iff {I : jc_I} {c : Nat} (hn : qn I c) (hq : qr I c) (hop : ∀ i, i < ((bq I).sz c).toNatClampNeg → 0 ≤ (bq I).op c i ∧ (bq I).op c i ≤ 26) (hl : ∀ i, p_lk (bq I) c i = 0 ∨ 0 < p_lk (bq I) c i) : (q_good I c).1 = 1 ↔ p_good (bq I) c := by
  obtain ⟨n1, n2, n3, n4, n5, n6⟩ := hn
  have n3i := jle.mp n3
  rw [j0I] at n3i
  unfold q_good p_good
  by_cases h1 : I (11, c, 0) 0 ≤ I (11, c, 0) 3 ∧ I (11, c, 0) 6 ≠ 0 ∧ (I (41, c, 0) (I (11, c, 0) 6 - 1).toNatClampNeg = 11 ∨ I (41, c, 0) (I (11, c, 0) 6 - 1).toNatClampNeg = 19 ∨ I (41, c, 0) (I (11, c, 0) 6 - 1).toNatClampNeg = 22)
  · rw [if_pos h1]
    have hpos : 0 < (bq I).sz c := by
      rw [jlt, j0I]
      show 0 < (I (11, c, 0) 6).toInt
      have : (I (11, c, 0) 6).toInt ≠ 0 := fun g => h1.2.1 (Int32.toInt_inj.mp (by rw [g, j0I]))
      omega
    have hrw : q_rw I c (I (11, c, 0) 11).toNatClampNeg 0 ≠ 0 ↔ p_rows (bq I) c := by
      rw [q_rw01]
      constructor
      · intro g r hr
        obtain ⟨a, b, d⟩ := g r (Nat.zero_le _) (by rw [Nat.zero_add]; exact hr)
        exact ⟨a, b, hq r hr, d⟩
      · intro g r _ hr
        obtain ⟨a, b, d⟩ := g r (by rw [Nat.zero_add] at hr; exact hr)
        exact ⟨a, b, d.2⟩
    by_cases h2 : q_rw I c (I (11, c, 0) 11).toNatClampNeg 0 = 0
    · rw [if_pos h2]
      exact ⟨fun g => absurd (show (0 : Int32) = 1 from g) (by decide), fun g => absurd h2 (hrw.mpr g.2.2.2.2.1)⟩
    · rw [if_neg h2]
      unfold q_g2
      have e8 : bq (jc_up I (10, 0, 0) 8 0) = bq I := qE_8.bkq
      have hk : rkK (jc_up I (10, 0, 0) 8 0) [] := ⟨jc_up_s _ _ _ _, by decide, trivial, fun y hy => absurd hy List.not_mem_nil⟩
      have := rk_gl (c := c) (I (11, c, 0) 6).toNatClampNeg 0 (jc_up I (10, 0, 0) 8 0) [] hk rfl (by rw [e8, Nat.zero_add]; exact hop) (by rw [e8]; exact hl)
      rw [this, e8, Nat.zero_add]
      constructor
      · rintro ⟨g1, g2⟩
        exact ⟨hpos, h1.2.2, h1.1, fun i hi => g2 i (Nat.zero_le _) hi, hrw.mp h2, g1⟩
      · rintro ⟨g1, g2, g3, g4, g5, g6⟩
        exact ⟨g6, fun i _ hi => g4 i hi⟩
  · rw [if_neg h1]
    refine ⟨fun g => absurd (show (0 : Int32) = 1 from g) (by decide), fun g => absurd ?_ h1⟩
    refine ⟨g.2.2.1, fun e => ?_, g.2.1⟩
    have := g.1
    rw [show (bq I).sz c = I (11, c, 0) 6 from rfl, e] at this
    exact absurd this (by decide)
