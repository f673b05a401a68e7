theorem rk_ite {r s : Int32 × jc_I} {x z : Option (List Int32)} {p : Prop} [D : Decidable p] [D2 : Decidable p] (h1 : p → rkO r x) (h2 : ¬ p → rkO s z) : rkO (@ite _ p D r s) (@ite _ p D2 x z) := by
  by_cases hp : p
  · rw [if_pos hp, if_pos hp]; exact h1 hp
  · rw [if_neg hp, if_neg hp]; exact h2 hp
theorem rk_tg {I : jc_I} {K : List Int32} {c : Nat} {a : Int32} (h : rkK I K) (hp : p_place (bq I) c a) : rkO (q_tg I c a, I) (p_leave (bq I) c a K) := by
  unfold q_tg p_leave
  by_cases hc : K = [] ∧ ¬ p_tkr (bq I) c a
  · rw [if_pos hc, if_pos ⟨h.d0.1.mpr hc.1, hp.1, hp.2, Classical.not_not.mp (fun g => hc.2 (q_tkr_iff.mp g))⟩]
    obtain ⟨e, _⟩ := hc
    subst e
    exact ⟨rfl, h⟩
  · rw [if_neg hc, if_neg (fun g => hc ⟨h.d0.1.mp g.1, fun g2 => q_tkr_iff.mpr g2 g.2.2.2⟩)]
    rfl
theorem p_take0 {K : List Int32} : p_take 0 K = none := by
  cases K with
  | nil => rfl
  | cons y K =>
    show (if (0 : Int32) ≠ 0 ∧ y = 0 then some K else none) = none
    exact if_neg (fun g => g.1 rfl)
theorem p_push0 {K : List Int32} : p_push 0 K = none := if_pos (Or.inl rfl)
theorem rk_tgN {I : jc_I} {c : Nat} {a : Int32} (hp : ¬ p_place (bq I) c a) : q_tg I c a = 0 := by
  unfold q_tg
  exact if_neg (fun g => hp ⟨g.2.1, g.2.2.1⟩)
theorem rk_gcl {d : Nat} : ∀ (m : Nat) (I : jc_I) (K : List Int32), rkK I K → rkO (q_gcl d m I) ((p_par (bq I) d m K).bind (p_res (bq I) d))
  | 0, I, K, h => by
    rw [q_gcl]
    show rkO _ (p_res (bq I) d K)
    unfold p_res
    by_cases hr : (bq I).res d ≠ 0
    · rw [if_pos hr]
      exact rk_gv h hr
    · rw [if_neg hr]
      have hr : I (11, d, 0) 1 = 0 := Decidable.not_not.mp hr
      unfold q_gv
      rw [if_pos hr]
      exact ⟨rfl, h⟩
  | m + 1, I, K, h => by
    rw [q_gcl]
    show rkO _ (((p_take (p_lk (bq I) d (Int32.ofNat m)) K).bind (p_par (bq I) d m)).bind (p_res (bq I) d))
    by_cases hz : q_lk I d (Int32.ofNat m) = 0
    · rw [if_pos hz]
      have : p_take (p_lk (bq I) d (Int32.ofNat m)) K = none := by
        rw [← q_lk_bq, hz]
        exact p_take0
      rw [this]
      rfl
    · rw [if_neg hz]
      have ht := rk_tk h hz
      rw [← q_lk_bq]
      have hb : bq (q_tk I (q_lk I d (Int32.ofNat m))).2 = bq I := qE_tk.bkq
      generalize hr : q_tk I (q_lk I d (Int32.ofNat m)) = r at ht hb ⊢
      cases hx : p_take (q_lk I d (Int32.ofNat m)) K with
      | none =>
        rw [hx] at ht
        rw [if_pos (show r.1 = 0 from ht)]
        rfl
      | some K1 =>
        rw [hx] at ht
        rw [if_neg (by rw [ht.1]; decide)]
        have := rk_gcl (d := d) m r.2 K1 ht.2
        rw [hb] at this
        exact this
theorem rk_gs {I : jc_I} {K : List Int32} {c : Nat} {op a : Int32} (h : rkK I K) (h0 : 0 ≤ op) (h26 : op ≤ 26) (hj : p_jmp op → p_place (bq I) c a) (hl : ∀ i, p_lk (bq I) c i = 0 ∨ 0 < p_lk (bq I) c i) : rkO (q_gs I c op a) (p_ins (bq I) c op a K) := by
  have n12 : (1 : Int32) ≠ 0 := by decide
  have n2 : (2 : Int32) ≠ 0 := by decide
  have tb : ∀ {J : jc_I} {k : Int32}, bq (q_tk J k).2 = bq J := fun {J k} => qE_tk.bkq
  have lz : ∀ {i : Int32}, ¬ 0 < q_lk I c i → p_lk (bq I) c i = 0 := fun {i} g => (hl i).resolve_right g
  have lp : ∀ {i : Int32}, 0 < q_lk I c i → q_lk I c i ≠ 0 := fun {i} g e => by rw [e] at g; exact absurd g (by decide)
  unfold q_gs p_ins
  refine rk_ite (fun _ => rk_gv h n12) (fun a1 => ?_)
  refine rk_ite (fun _ => rk_gv h n2) (fun a2 => ?_)
  refine rk_ite (fun _ => ?_) (fun a3 => ?_)
  · cases K with
    | nil => rw [if_neg (fun g => h.d0.2.mp g rfl)]; rfl
    | cons y K =>
      have hy : y ≠ 0 := h.2.2.2 y List.mem_cons_self
      rw [if_pos (h.d0.2.mpr (by simp)), h.top]
      show rkO _ (if y ≠ 0 then some K else none)
      rw [if_pos hy]
      have := rk_tk h hy
      rw [show p_take y (y :: K) = some K from if_pos ⟨hy, rfl⟩] at this
      exact rk_1 this
  refine rk_ite (fun _ => ?_) (fun a4 => ?_)
  · cases K with
    | nil => rw [if_neg (fun g => h.d0.2.mp g rfl)]; rfl
    | cons y K =>
      have hy : y ≠ 0 := h.2.2.2 y List.mem_cons_self
      rw [if_pos (h.d0.2.mpr (by simp)), h.top]
      exact rk_1 (rk_gv h hy)
  refine rk_ite (fun _ => ?_) (fun a5 => ?_)
  · have e : ((p_take 1 K).bind (p_take 1)).bind (p_push 1) = (p_take 1 K).bind (fun K => (p_take 1 K).bind (p_push 1)) := by cases p_take 1 K <;> rfl
    rw [e]
    exact rk_and (rk_tk h n12) (fun K1 _ h1 => rk_and (rk_tk h1 n12) (fun K2 _ h2 => rk_1 (rk_gv h2 n12)))
  refine rk_ite (fun _ => ?_) (fun a6 => ?_)
  · by_cases hp : 0 < q_lk I c a
    · rw [if_pos hp]; exact rk_1 (rk_gv h (lp hp))
    · rw [if_neg hp, lz hp, p_push0]; rfl
  refine rk_ite (fun _ => ?_) (fun a7 => ?_)
  · by_cases hp : 0 < q_lk I c a
    · rw [if_pos hp]; exact rk_1 (rk_tk h (lp hp))
    · rw [if_neg hp, lz hp, p_take0]; rfl
  refine rk_ite (fun e => rk_tg h (hj (Or.inl e))) (fun a8 => ?_)
  refine rk_ite (fun e => rk_and (rk_tk h n12) (fun K1 _ h1 => ?_)) (fun a9 => ?_)
  · have := rk_tg (c := c) (a := a) h1 (by rw [tb]; exact hj (Or.inr (Or.inl e)))
    rw [tb] at this
    exact this
  refine rk_ite (fun e => rk_and (rk_tk h n2) (fun K1 _ h1 => ?_)) (fun a10 => ?_)
  · have := rk_tg (c := c) (a := a) h1 (by rw [tb]; exact hj (Or.inr (Or.inr e)))
    rw [tb] at this
    exact this
  refine rk_ite (fun _ => rk_and (rk_tk h n2) (fun K1 _ h1 => rk_1 (rk_gv h1 n12))) (fun a11 => ?_)
  refine rk_ite (fun _ => rk_and (rk_tk h n12) (fun K1 _ h1 => rk_1 (rk_tk h1 n2))) (fun a12 => ?_)
  refine rk_ite (fun _ => rk_and (rk_tk h n2) (fun K1 _ h1 => rk_1 (rk_gv h1 n2))) (fun a13 => ?_)
  refine rk_ite (fun _ => rk_and (rk_tk h n2) (fun K1 _ h1 => rk_1 (rk_tk h1 n2))) (fun a14 => ?_)
  by_cases h18 : op = 18
  · subst h18
    rw [if_pos rfl, if_neg (by decide), if_neg (by decide)]
    unfold q_gc
    exact rk_ite (fun hp => rk_gcl _ _ _ h) (fun _ => rfl)
  rw [if_neg h18]
  refine rk_ite (fun _ => rk_tk h n2) (fun a15 => ?_)
  by_cases h22 : op = 22
  · rw [if_pos h22, if_pos h22]
    have pe : ∀ {J : jc_I} {K1 : List Int32}, rkK J K1 → rkO ((fun J => (if J (10, 0, 0) 8 = 0 then 1 else 0, J)) J : Int32 × jc_I) (p_end K1) := by
      intro J K1 h1
      unfold p_end
      by_cases e : K1 = []
      · subst e
        rw [if_pos rfl]
        exact ⟨if_pos (h1.d0.1.mpr rfl), h1⟩
      · rw [if_neg e]
        exact if_neg (fun g => e (h1.d0.1.mp g))
    by_cases hr : (bq I).res c ≠ 0
    · rw [if_pos hr]
      exact rk_and (rk_tk h hr) (fun K1 _ h1 => pe h1)
    · rw [if_neg hr]
      have hr0 : I (11, c, 0) 1 = 0 := Decidable.not_not.mp hr
      rw [hr0]
      have : q_tk I 0 = (1, I) := if_pos rfl
      rw [this]
      exact rk_and (x := some K) ⟨rfl, h⟩ (fun K1 e h1 => pe h1)
  · exfalso
    rcases j_0_26 op with g | g | g | g | g | g | g | g | g | g | g | g | g | g | g | g | g | g | g | g | g | g | g | g | g | g | g | g | g <;> grind
