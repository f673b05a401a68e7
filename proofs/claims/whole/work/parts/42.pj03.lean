theorem jkK.dep0 {J : jc_I} {K : List Int32} (h : jkK J K) : J (2, 0, 0) 6 = 0 ↔ K = [] := by
  obtain ⟨h1, h2, h3, h4⟩ := h
  rw [h2]
  cases K with
  | nil => simp
  | cons x K =>
    simp only [reduceCtorEq, iff_false]
    intro e
    have e1 := jofI (n := K.length + 1) (by simp at h3; omega)
    rw [List.length_cons] at e
    rw [e, j0I] at e1
    omega
theorem p_tkr.lbl {B : jc_B} {c : Nat} {p : Int32} (h : p_tkr B c p) : p_lbl B c p := by
  obtain ⟨r, a, b⟩ := h
  exact Or.inl ⟨r, a, Or.inl b⟩
theorem mkS.mk {J : jc_I} {N T : Int32 → Prop} (h : mkS J N T) {x : Int32} (h0 : 0 ≤ x) (h1 : x ≤ 60) : (g_mk J x = 0 ∨ g_mk J x = 1 ∨ g_mk J x = 2) ∧ (g_mk J x ≠ 0 ↔ N x) ∧ (g_mk J x = 2 ↔ T x) := by
  have e2 : (60 : Int32).toInt = 60 := by decide
  have hp : x.toNatClampNeg ≤ 60 := by have := jNI h0; rw [jle, e2] at h1; omega
  have e := (j60 (x := x) hp).mpr ⟨⟨h0, h1⟩, rfl⟩
  have := h _ hp
  rw [← e] at this
  unfold g_mk
  rw [if_pos ⟨h0, h1⟩]
  exact this
theorem jkO.none_dem {J : jc_I} {b : Int32} (h : jkO J none) : jkO (g_dem J b) none := jkO_dem h
theorem jkO_arr {J : jc_I} {x : Option (List Int32)} {c i : Nat} (h : jkO J x) (hm : mkS J (p_lbl (bk J) c) (p_tkr (bk J) c)) (hi : i ≤ 60) : jkO (g_arr J (Int32.ofNat i) (g_b J c (Int32.ofNat i))) (x.bind (p_arr (bk J) c i)) := by
  have e1 := jofI (n := i) (by omega)
  have e2 : (60 : Int32).toInt = 60 := by decide
  obtain ⟨m1, m2, m3⟩ := hm.mk (x := Int32.ofNat i) (by rw [jle, e1, j0I]; omega) (by rw [jle, e1, e2]; omega)
  have hon : g_b J c (Int32.ofNat i) ≠ 0 ↔ p_on (bk J) c i := by
    unfold g_b p_on
    cases i with
    | zero => simp
    | succ i =>
      rw [jofs (by omega), jofN (by omega)]
      have hz : Int32.ofNat (i + 1) ≠ 0 := fun e => by rw [e, j0I] at e1; omega
      show _ ↔ i + 1 = 0 ∨ ¬ p_lst (J (21, c, 0) i)
      unfold p_lst
      by_cases hl : J (21, c, 0) i = 11 ∨ J (21, c, 0) i = 19 ∨ J (21, c, 0) i = 22
      · rw [if_neg (by simp only [hz, hl, not_true_eq_false, or_self, not_false_eq_true])]
        simp [hl]
      · rw [if_pos (Or.inr hl)]
        simp [hl]
  unfold g_arr
  cases x with
  | none =>
    show jkO _ none
    split
    · exact h.none_dem
    · split
      · exact jkO_give (x := none) (show jc_up _ _ _ _ _ _ = _ from by rw [jc_up_k _ _ _ _ _ _ (by decide)]; exact h.none_dem)
      · exact (show jc_up _ _ _ _ _ _ = _ from by rw [jc_up_k _ _ _ _ _ _ (by decide)]; exact h.none_dem)
  | some K =>
    show jkO _ (p_arr (bk J) c i K)
    unfold p_arr
    by_cases ho : p_on (bk J) c i
    · rw [if_pos ho, if_pos (hon.mpr ho)]
      have hd := jkO_dem (b := (if g_mk J (Int32.ofNat i) = 0 ∨ (g_mk J (Int32.ofNat i) = 1 ∧ J (2, 0, 0) 6 = 0) then 1 else 0)) h
      have hk := jkK.dep0 h
      by_cases hc : ¬ p_lbl (bk J) c (Int32.ofNat i) ∨ (¬ p_tkr (bk J) c (Int32.ofNat i) ∧ K = [])
      · rw [if_pos hc]
        have hc2 : g_mk J (Int32.ofNat i) = 0 ∨ (g_mk J (Int32.ofNat i) = 1 ∧ J (2, 0, 0) 6 = 0) := by
          rcases hc with hc | ⟨hc, hc3⟩
          · rw [← m2] at hc; exact Or.inl (Decidable.not_not.mp hc)
          · rw [← m3] at hc
            rcases m1 with m1 | m1 | m1
            · exact Or.inl m1
            · exact Or.inr ⟨m1, hk.mpr hc3⟩
            · exact absurd m1 hc
        rw [if_pos hc2] at hd ⊢
        exact hd
      · rw [if_neg hc]
        have hc2 : ¬ (g_mk J (Int32.ofNat i) = 0 ∨ (g_mk J (Int32.ofNat i) = 1 ∧ J (2, 0, 0) 6 = 0)) := by
          rintro (g | ⟨g, g2⟩)
          · exact hc (Or.inl (fun hl => m2.mpr hl g))
          · refine hc (Or.inr ⟨fun ht => ?_, hk.mp g2⟩)
            rw [m3.mpr ht] at g
            exact absurd g (by decide)
        rw [if_neg hc2] at hd ⊢
        exact hd
    · rw [if_neg ho, if_neg (fun g => ho (hon.mp g))]
      have hd := jkO_dem (b := if g_mk J (Int32.ofNat i) ≠ 0 then 1 else 0) h
      by_cases hl : p_lbl (bk J) c (Int32.ofNat i)
      · rw [if_pos hl]
        have hnz := m2.mpr hl
        rw [if_pos hnz] at hd
        have hd : jkK (g_dem J 1) K := hd
        have h0 : jkK (jc_up (g_dem J 1) (2, 0, 0) 6 0) [] := ⟨by rw [jc_up_k _ _ _ _ _ _ (by decide)]; exact hd.1, jc_up_s _ _ _ _, by decide, trivial⟩
        by_cases ht : p_tkr (bk J) c (Int32.ofNat i)
        · rw [if_pos ht, if_pos (m3.mpr ht), if_pos hnz]
          exact jkO_give (x := some []) h0
        · rw [if_neg ht, if_neg (fun g => ht (m3.mp g)), if_pos hnz]
          exact h0
      · rw [if_neg hl]
        have hz : ¬ g_mk J (Int32.ofNat i) ≠ 0 := fun g => hl (m2.mp g)
        have h2 : ¬ g_mk J (Int32.ofNat i) = 2 := fun g => hz (by rw [g]; decide)
        rw [if_neg h2, if_neg hz]
        show jc_up _ _ _ _ _ _ = _
        rw [jc_up_k _ _ _ _ _ _ (by decide)]
        exact jkO_dem0
theorem g_lk_bk {J : jc_I} {c : Nat} {i : Int32} : g_lk J c i = p_lk (bk J) c i := rfl
theorem jkO_par {d : Nat} : ∀ (m : Nat) (J : jc_I) (x : Option (List Int32)), m ≤ 8 → jkO J x → jkO (g_par d m (Int32.ofNat m - 1) J) (x.bind (p_par (bk J) d m))
  | 0, J, x, _, h => by cases x <;> exact h
  | m + 1, J, x, hm, h => by
    rw [g_par, jofs (by omega)]
    have h1 := jkO_take (k := g_lk J d (Int32.ofNat m)) h
    have h2 := jkO_par (d := d) m _ _ (by omega) h1
    rw [jF_take.bk] at h2
    cases x with
    | none => exact h2
    | some K => exact h2
theorem jkO_ite {J J' : jc_I} {x y : Option (List Int32)} {p : Prop} [D : Decidable p] [D2 : Decidable p] (h1 : p → jkO J x) (h2 : ¬ p → jkO J' y) : jkO (@ite _ p D J J') (@ite _ p D2 x y) := by
  by_cases hp : p
  · rw [if_pos hp, if_pos hp]; exact h1 hp
  · rw [if_neg hp, if_neg hp]; exact h2 hp
theorem jkO_call {J : jc_I} {K : List Int32} {a : Int32} (h : jkK J K) (hA : ∀ d : Nat, (d : Int) < (J (1, 0, 0) 1).toInt → 0 ≤ J (6, d, 0) 1 ∧ J (6, d, 0) 1 ≤ 8) : jkO (g_call J a) (if 0 ≤ a ∧ a < (bk J).cn then (p_par (bk J) a.toNatClampNeg ((bk J).par a.toNatClampNeg).toNatClampNeg K).bind (p_res (bk J) a.toNatClampNeg) else none) := by
  unfold g_call
  refine jkO_ite (fun hp => ?_) (fun _ => jkO_dem0)
  obtain ⟨a1, a2⟩ := hA a.toNatClampNeg (jlN hp.1 hp.2)
  have hN := jNI a1
  have e8 : (8 : Int32).toInt = 8 := by decide
  have hle : (J (6, a.toNatClampNeg, 0) 1).toNatClampNeg ≤ 8 := by rw [jle, e8] at a2; omega
  have h1 := jkO_par (d := a.toNatClampNeg) (J (6, a.toNatClampNeg, 0) 1).toNatClampNeg J (some K) hle h
  have e : Int32.ofNat (J (6, a.toNatClampNeg, 0) 1).toNatClampNeg = J (6, a.toNatClampNeg, 0) 1 := by
    apply Int32.toInt_inj.mp
    rw [jofI (by omega), hN]
  rw [e] at h1
  unfold g_fc g_fin
  have hb := (jF_par (d := a.toNatClampNeg) (J (6, a.toNatClampNeg, 0) 1).toNatClampNeg (J (6, a.toNatClampNeg, 0) 1 - 1) J)
  rw [hb _ _ (by simp) (by simp)]
  by_cases hr : J (6, a.toNatClampNeg, 0) 2 ≠ 0
  · rw [if_pos hr]
    have e9 : p_res (bk J) a.toNatClampNeg = p_push (J (6, a.toNatClampNeg, 0) 2) := by funext K9; exact if_pos hr
    rw [e9]
    exact jkO_give h1
  · rw [if_neg hr]
    have e9 : p_res (bk J) a.toNatClampNeg = some := by funext K9; exact if_neg hr
    rw [e9]
    have : ∀ x : Option (List Int32), x.bind some = x := fun x => by cases x <;> rfl
    rw [this]
    exact h1
theorem jkO_leave {J : jc_I} {x : Option (List Int32)} {c : Nat} {a : Int32} (h : jkO J x) (hm : mkS J (p_lbl (bk J) c) (p_tkr (bk J) c)) (h0 : 0 ≤ a) (h1 : a ≤ 60) : jkO (g_leave J a) (x.bind (p_leave (bk J) c a)) := by
  unfold g_leave
  have hd := jkO_dem (b := if J (2, 0, 0) 6 = 0 ∧ g_mk J a ≠ 2 then 1 else 0) h
  obtain ⟨m1, m2, m3⟩ := hm.mk h0 h1
  cases x with
  | none => exact hd
  | some K =>
    show jkO _ (p_leave (bk J) c a K)
    unfold p_leave
    have hk := jkK.dep0 h
    by_cases hc : K = [] ∧ ¬ p_tkr (bk J) c a
    · rw [if_pos hc]
      rw [if_pos ⟨hk.mpr hc.1, fun g => hc.2 (m3.mp g)⟩] at hd ⊢
      rw [hc.1] at hd
      exact hd
    · rw [if_neg hc]
      rw [if_neg (fun g => hc ⟨hk.mp g.1, fun g2 => g.2 (m3.mpr g2)⟩)]
      exact jkO_dem0
theorem jkO_end {J : jc_I} {x : Option (List Int32)} (h : jkO J x) : jkO (g_dem J (if J (2, 0, 0) 6 = 0 then 1 else 0)) (x.bind p_end) := by
  have hd := jkO_dem (b := if J (2, 0, 0) 6 = 0 then 1 else 0) h
  cases x with
  | none => exact hd
  | some K =>
    show jkO _ (p_end K)
    unfold p_end
    have hk := jkK.dep0 h
    by_cases hc : K = []
    · rw [if_pos hc]
      rw [if_pos (hk.mpr hc)] at hd ⊢
      rw [hc] at hd
      exact hd
    · rw [if_neg hc, if_neg (fun g => hc (hk.mp g))]
      exact jkO_dem0
theorem jkO_fol {J : jc_I} {K : List Int32} {c : Nat} {op a : Int32} (h : jkK J K) (hm : mkS J (p_lbl (bk J) c) (p_tkr (bk J) c)) (hj : p_jmp op → 0 ≤ a ∧ a ≤ 60) (hA : ∀ d : Nat, (d : Int) < (J (1, 0, 0) 1).toInt → 0 ≤ J (6, d, 0) 1 ∧ J (6, d, 0) 1 ≤ 8) : jkO (g_fol J c op a) (p_ins (bk J) c op a K) := by
  have hO : jkO J (some K) := h
  unfold g_fol p_ins
  refine jkO_ite (fun _ => jkO_give hO) (fun n1 => ?_)
  refine jkO_ite (fun _ => jkO_give hO) (fun n2 => ?_)
  refine jkO_ite (fun _ => ?_) (fun n3 => ?_)
  · rw [h.top]
    have := jkO_take (k := K.headD 0) hO
    cases K with
    | nil => exact this
    | cons x K =>
      show jkO _ (if x ≠ 0 then some K else none)
      have : jkO (g_take J x) (if x ≠ 0 ∧ x = x then some K else none) := this
      simp only [and_true] at this
      exact this
  refine jkO_ite (fun _ => ?_) (fun n4 => ?_)
  · rw [h.top]
    have := jkO_give (k := K.headD 0) hO
    cases K with
    | nil => exact this
    | cons x K => exact this
  refine jkO_ite (fun _ => jkO_give (jkO_take (jkO_take hO))) (fun n5 => ?_)
  refine jkO_ite (fun _ => jkO_give hO) (fun n6 => ?_)
  refine jkO_ite (fun _ => jkO_take hO) (fun n7 => ?_)
  refine jkO_ite (fun e => jkO_leave hO hm (hj (by unfold p_jmp; exact Or.inl e)).1 (hj (by unfold p_jmp; exact Or.inl e)).2) (fun n8 => ?_)
  refine jkO_ite (fun e => ?_) (fun n9 => ?_)
  · have := jkO_leave (c := c) (a := a) (jkO_take (k := 1) hO) (by rw [jF_take.bk]; exact jF_take.mk hm) (hj (by unfold p_jmp; exact Or.inr (Or.inl e))).1 (hj (by unfold p_jmp; exact Or.inr (Or.inl e))).2
    rw [jF_take.bk] at this
    exact this
  refine jkO_ite (fun e => ?_) (fun n10 => ?_)
  · have := jkO_leave (c := c) (a := a) (jkO_take (k := 2) hO) (by rw [jF_take.bk]; exact jF_take.mk hm) (hj (by unfold p_jmp; exact Or.inr (Or.inr e))).1 (hj (by unfold p_jmp; exact Or.inr (Or.inr e))).2
    rw [jF_take.bk] at this
    exact this
  by_cases hu : op = 15 ∨ op = 16 ∨ op = 17 ∨ op = 23 ∨ op = 24
  · rw [if_pos hu]
    unfold g_use
    rcases hu with e | e | e | e | e <;> subst e <;> simp +decide only [if_false, if_true] <;> first | exact jkO_give (jkO_take hO) | exact jkO_take (jkO_take hO)
  rw [if_neg hu, if_neg (show ¬ (op = 15 ∨ op = 16) from fun g => hu (g.elim Or.inl (fun g => Or.inr (Or.inl g)))), if_neg (show ¬ op = 17 from fun g => hu (Or.inr (Or.inr (Or.inl g)))), if_neg (show ¬ op = 23 from fun g => hu (Or.inr (Or.inr (Or.inr (Or.inl g))))), if_neg (show ¬ op = 24 from fun g => hu (Or.inr (Or.inr (Or.inr (Or.inr g)))))]
  refine jkO_ite (fun _ => jkO_call h hA) (fun n11 => ?_)
  refine jkO_ite (fun _ => jkO_take hO) (fun n12 => ?_)
  refine jkO_ite (fun _ => ?_) (fun n13 => jkO_dem0)
  unfold g_ret
  dsimp only
  by_cases hr : J (6, c, 0) 2 ≠ 0
  · rw [if_pos hr]
    rw [if_pos (show (bk J).res c ≠ 0 from hr)]
    exact jkO_end (jkO_take hO)
  · rw [if_neg hr]
    rw [if_neg (show ¬ (bk J).res c ≠ 0 from hr)]
    exact jkO_end hO
