/-- the new thing's cells -/
theorem mk_O {J : jc_I} {O : jc_O} {live : jc_L → Prop} {x : Int32} (hf : ¬ full J) (hN : jw_N J O live) : (h_mk J O live x).2.2.1 (30, 0, 0) (J (3, 0, 0) 2).toNatClampNeg = some (7, (J (3, 0, 0) 2).toNatClampNeg, 0) ∧ (h_mk J O live x).2.2.1 (7, (J (3, 0, 0) 2).toNatClampNeg, 0) 0 = some (29, (J (3, 0, 0) 2).toNatClampNeg, 0) ∧ (∀ q i, q ≠ (7, (J (3, 0, 0) 2).toNatClampNeg, 0) → q ≠ (29, (J (3, 0, 0) 2).toNatClampNeg, 0) → ¬ (q = (30, 0, 0) ∧ i = (J (3, 0, 0) 2).toNatClampNeg) → (h_mk J O live x).2.2.1 q i = O q i) ∧ ∀ q, (h_mk J O live x).2.2.2.1 q → live q ∨ q = (7, (J (3, 0, 0) 2).toNatClampNeg, 0) ∨ q = (29, (J (3, 0, 0) 2).toNatClampNeg, 0) := by
  obtain ⟨h1, h2, h3⟩ := hN
  unfold h_mk
  rw [if_neg (show ¬ (2000 ≤ J (3, 0, 0) 2 ∨ 40000 ≤ J (3, 0, 0) 3) from hf)]
  generalize (J (3, 0, 0) 2).toNatClampNeg = k at *
  rcases h3 with ⟨a, b⟩ | ⟨a, b, c⟩
  · rw [if_neg (by rw [a]; simp)]
    exact ⟨a, b, fun _ _ _ _ _ => rfl, fun _ h => Or.inl h⟩
  · rw [if_pos a]
    dsimp only
    refine ⟨jc_up_s _ _ _ _, ?_, fun q i g1 g2 g3 => ?_, fun q g => ?_⟩
    · rw [jc_up_t _ _ _ _ _ _ _ _ (by decide), jc_up_s]
    · have e : jc_up (jc_up (jc_cl (jc_cl O (7, k, 0) none) (29, k, 0) none) (7, k, 0) 0 (some (29, k, 0))) (30, 0, 0) k (some (7, k, 0)) q i = jc_up (jc_cl (jc_cl O (7, k, 0) none) (29, k, 0) none) (7, k, 0) 0 (some (29, k, 0)) q i := if_neg g3
      rw [e, jc_up_q _ _ _ _ _ _ g1]
      unfold jc_cl
      rw [if_neg g2, if_neg g1]
    · rcases g with g | g | g
      · exact Or.inr (Or.inr g)
      · exact Or.inr (Or.inl g)
      · exact Or.inl g
theorem jw_A.toO {I : jc_I} {O O' : jc_O} (h : jw_A I O) (e : ∀ q k, q.1 = 1 ∨ q.1 = 24 ∨ q.1 = 6 ∨ q.1 = 23 → O' q k = O q k) : jw_A I O' := by
  obtain ⟨a1, a2, a3, a4⟩ := h
  refine ⟨(e _ _ (by simp)).trans a1, a2, a3, fun k hk => ?_⟩
  obtain ⟨b1, b2, b3, b4, b5⟩ := a4 k hk
  refine ⟨(e _ _ (by simp)).trans b1, ?_, b3, fun r hr => (e _ _ (by simp)).trans (b4 r hr), b5⟩
  unfold jw_C at *
  rw [e _ _ (by simp), e _ _ (by simp), e _ _ (by simp), e _ _ (by simp)]
  exact b2
/-- the first side behind a new thing -/
def MK (J : jc_I) (O : jc_O) (live : jc_L → Prop) (x : Int32) (S : Int) (t n0 : Nat) : Prop := (jw_M (h_mk J O live x).2.2.1) ∧ (jw_H (h_mk J O live x).2.1 (h_mk J O live x).2.2.1) ∧ (jw_A (h_mk J O live x).2.1 (h_mk J O live x).2.2.1) ∧ (HO (h_mk J O live x).2.1 S) ∧ (ThOK (h_mk J O live x).2.2.1 (h_mk J O live x).2.2.2.1) ∧ (St (h_mk J O live x).2.2.1 t) ∧ (TH (h_mk J O live x).2.1 (h_mk J O live x).2.2.1 t n0) ∧ (∀ q k, q.1 ≠ 7 → q.1 ≠ 29 → q.1 ≠ 3 → (h_mk J O live x).2.1 q k = J q k) ∧ (∀ q k, q.1 ≠ 7 → q.1 ≠ 29 → q.1 ≠ 30 → (h_mk J O live x).2.2.1 q k = O q k) ∧ (∀ q, (h_mk J O live x).2.2.2.1 q → live q ∨ q.1 = 7 ∨ q.1 = 29) ∧ (∀ y, jV J y → jV (h_mk J O live x).2.1 y)
theorem MK.M {J : jc_I} {O : jc_O} {live : jc_L → Prop} {x : Int32} {S : Int} {t n0 : Nat} (h9 : MK J O live x S t n0) : jw_M (h_mk J O live x).2.2.1 := h9.1
theorem MK.H {J : jc_I} {O : jc_O} {live : jc_L → Prop} {x : Int32} {S : Int} {t n0 : Nat} (h9 : MK J O live x S t n0) : jw_H (h_mk J O live x).2.1 (h_mk J O live x).2.2.1 := h9.2.1
theorem MK.A {J : jc_I} {O : jc_O} {live : jc_L → Prop} {x : Int32} {S : Int} {t n0 : Nat} (h9 : MK J O live x S t n0) : jw_A (h_mk J O live x).2.1 (h_mk J O live x).2.2.1 := h9.2.2.1
theorem MK.ho {J : jc_I} {O : jc_O} {live : jc_L → Prop} {x : Int32} {S : Int} {t n0 : Nat} (h9 : MK J O live x S t n0) : HO (h_mk J O live x).2.1 S := h9.2.2.2.1
theorem MK.th {J : jc_I} {O : jc_O} {live : jc_L → Prop} {x : Int32} {S : Int} {t n0 : Nat} (h9 : MK J O live x S t n0) : ThOK (h_mk J O live x).2.2.1 (h_mk J O live x).2.2.2.1 := h9.2.2.2.2.1
theorem MK.st {J : jc_I} {O : jc_O} {live : jc_L → Prop} {x : Int32} {S : Int} {t n0 : Nat} (h9 : MK J O live x S t n0) : St (h_mk J O live x).2.2.1 t := h9.2.2.2.2.2.1
theorem MK.TH {J : jc_I} {O : jc_O} {live : jc_L → Prop} {x : Int32} {S : Int} {t n0 : Nat} (h9 : MK J O live x S t n0) : TH (h_mk J O live x).2.1 (h_mk J O live x).2.2.1 t n0 := h9.2.2.2.2.2.2.1
theorem MK.e {J : jc_I} {O : jc_O} {live : jc_L → Prop} {x : Int32} {S : Int} {t n0 : Nat} (h9 : MK J O live x S t n0) : ∀ q k, q.1 ≠ 7 → q.1 ≠ 29 → q.1 ≠ 3 → (h_mk J O live x).2.1 q k = J q k := h9.2.2.2.2.2.2.2.1
theorem MK.eo {J : jc_I} {O : jc_O} {live : jc_L → Prop} {x : Int32} {S : Int} {t n0 : Nat} (h9 : MK J O live x S t n0) : ∀ q k, q.1 ≠ 7 → q.1 ≠ 29 → q.1 ≠ 30 → (h_mk J O live x).2.2.1 q k = O q k := h9.2.2.2.2.2.2.2.2.1
theorem MK.l2 {J : jc_I} {O : jc_O} {live : jc_L → Prop} {x : Int32} {S : Int} {t n0 : Nat} (h9 : MK J O live x S t n0) : ∀ q, (h_mk J O live x).2.2.2.1 q → live q ∨ q.1 = 7 ∨ q.1 = 29 := h9.2.2.2.2.2.2.2.2.2.1
theorem MK.v {J : jc_I} {O : jc_O} {live : jc_L → Prop} {x : Int32} {S : Int} {t n0 : Nat} (h9 : MK J O live x S t n0) : ∀ y, jV J y → jV (h_mk J O live x).2.1 y := h9.2.2.2.2.2.2.2.2.2.2
theorem MK.of {J : jc_I} {O : jc_O} {live : jc_L → Prop} {x : Int32} {S : Int} {t n0 : Nat} (h : CX J O live S t n0) : MK J O live x S t n0 := by
  have hN := h.th.N h.ho h.nf
  obtain ⟨o1, o2, o3, o4⟩ := mk_O (x := x) h.nf hN
  have hnew := mk_new (O := O) (live := live) (x := x) h.nf
  obtain ⟨c1, c2⟩ := mk_cI h.nf h.ho
  have c0 := jNI h.ho.c0
  have e : ∀ q k, q.1 ≠ 7 → q.1 ≠ 29 → q.1 ≠ 3 → (h_mk J O live x).2.1 q k = J q k := fun q k a b c => mk_e h.nf a b c
  have eo : ∀ q k, q.1 ≠ 7 → q.1 ≠ 29 → q.1 ≠ 30 → (h_mk J O live x).2.2.1 q k = O q k := fun q k a b c => o3 q k (fun g => a (by rw [g])) (fun g => b (by rw [g])) (fun g => c (by rw [g.1]))
  obtain ⟨v1, v2, v3⟩ := mk_v (O := O) (live := live) (x := x) h.nf h.ho
  have hb : bk (h_mk J O live x).2.1 = bk J := bk_eq (fun q k hq => e q k (by omega) (by omega) (by omega))
  have hth : ThOK (h_mk J O live x).2.2.1 (h_mk J O live x).2.2.2.1 := by
    refine ⟨(eo _ _ (by simp) (by simp) (by simp)).trans h.th.1, fun k hk => ?_⟩
    by_cases g : k = (J (3, 0, 0) 2).toNatClampNeg
    · subst g; exact Or.inl ⟨o1, o2⟩
    · rw [o3 _ _ (by simp) (by simp) (by simp [g]), o3 _ _ (by simp [g]) (by simp) (by simp)]
      rcases h.th.2 k hk with w | ⟨w1, w2, w3⟩
      · exact Or.inl w
      · refine Or.inr ⟨w1, fun q => ?_, fun q => ?_⟩
        · rcases o4 _ q with q | q | q
          · exact w2 q
          · exact g (congrArg (fun z => z.2.1) q)
          · cases q
        · rcases o4 _ q with q | q | q
          · exact w3 q
          · cases q
          · exact g (congrArg (fun z => z.2.1) q)
  refine ⟨?_, ?_, ?_, HO.make h.nf h.ho, hth, ?_, ?_, e, eo, fun q hq => ?_, v1⟩
  · unfold jw_M; rw [eo _ _ (by simp) (by simp) (by simp), eo _ _ (by simp) (by simp) (by simp), eo _ _ (by simp) (by simp) (by simp), eo _ _ (by simp) (by simp) (by simp)]; exact h.M
  · obtain ⟨a1, a2, a3, a4, a5⟩ := h.H
    have ho := HO.make (O := O) (live := live) (x := x) h.nf h.ho
    refine ⟨(eo _ _ (by simp) (by simp) (by simp)).trans a1, (eo _ _ (by simp) (by simp) (by simp)).trans a2, ho.c0, ho.c1, fun k hk => ?_⟩
    rw [hnew.2.1, c1] at hk
    by_cases g : k = (J (3, 0, 0) 2).toNatClampNeg
    · subst g; exact ⟨o1, o2⟩
    · rw [o3 _ _ (by simp) (by simp) (by simp [g]), o3 _ _ (by simp [g]) (by simp) (by simp)]
      exact a5 k (by omega)
  · refine jw_A.toO ?_ (fun q k hq => eo q k (by omega) (by omega) (by omega))
    exact (show jk [7, 29, 3] J (h_mk J O live x).2.1 from fun q k hq => e q k (fun g => hq (by simp [g])) (fun g => hq (by simp [g])) (fun g => hq (by simp [g]))).A (by decide) (by decide) h.A
  · refine ⟨(eo _ _ (by simp) (by simp) (by simp)).trans h.st.1, (eo _ _ (by simp) (by simp) (by simp)).trans h.st.2.1, fun j hj => ⟨(eo _ _ (by simp) (by simp) (by simp)).trans (h.st.2.2 j hj).1, ?_⟩⟩
    unfold jw_f
    rw [eo _ _ (by simp) (by simp) (by simp), eo _ _ (by simp) (by simp) (by simp)]
    exact (h.st.2.2 j hj).2
  · exact h.TH.to hb v1 (e _ _ (by simp) (by simp) (by simp)) (fun q k hq _ => e q k (by omega) (by omega) (by omega)) (fun j => eo _ _ (by simp) (by simp) (by simp))
  · rcases o4 q hq with g | g | g
    · exact Or.inl g
    · exact Or.inr (Or.inl (by rw [g]))
    · exact Or.inr (Or.inr (by rw [g]))
