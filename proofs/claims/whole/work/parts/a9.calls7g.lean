section
variable {I : jc_I} {O : jc_O} {lv : jc_L → Prop} {c : Nat} {p r : Int32} {q : jc_L} {k : Nat}
theorem k1_e (h : q ≠ (11, c, 0)) (h2 : ¬ (40 ≤ q.1 ∧ q.1 ≤ 46 ∧ q.2 = (c, 0))) : q_k1 I c p r q k = I q k := by
  unfold q_k1 qc_I
  have g : ∀ a : Nat, 40 ≤ a → a ≤ 46 → q ≠ (a, c, 0) := fun a x y e => h2 (by rw [e]; exact ⟨x, y, rfl⟩)
  rw [jc_up_q _ _ _ _ _ _ h, jc_up_q _ _ _ _ _ _ h]
  unfold jc_cl
  rw [if_neg (g 46 (by decide) (by decide)), if_neg (g 45 (by decide) (by decide)), if_neg (g 44 (by decide) (by decide)), if_neg (g 43 (by decide) (by decide)), if_neg (g 42 (by decide) (by decide)), if_neg (g 41 (by decide) (by decide)), if_neg (g 40 (by decide) (by decide)), if_neg h]
theorem k1_11 : q_k1 I c p r (11, c, 0) 0 = p ∧ q_k1 I c p r (11, c, 0) 1 = r ∧ ∀ i, 2 ≤ i → q_k1 I c p r (11, c, 0) i = 0 := by
  unfold q_k1 qc_I
  refine ⟨?_, jc_up_s _ _ _ _, fun i hi => ?_⟩
  · rw [jc_up_k _ _ _ _ _ _ (by decide), jc_up_s]
  · rw [jc_up_k _ _ _ _ _ _ (by omega), jc_up_k _ _ _ _ _ _ (by omega)]
    unfold jc_cl
    rw [if_neg (by simp), if_neg (by simp), if_neg (by simp), if_neg (by simp), if_neg (by simp), if_neg (by simp), if_neg (by simp), if_pos rfl]
theorem k1_4 {a : Nat} (h : 40 ≤ a ∧ a ≤ 46) (i : Nat) : q_k1 I c p r (a, c, 0) i = 0 := by
  unfold q_k1 qc_I
  rw [jc_up_t _ _ _ _ _ _ _ _ (by omega), jc_up_t _ _ _ _ _ _ _ _ (by omega)]
  unfold jc_cl
  rcases (show a = 40 ∨ a = 41 ∨ a = 42 ∨ a = 43 ∨ a = 44 ∨ a = 45 ∨ a = 46 by omega) with e | e | e | e | e | e | e <;> subst e <;> simp
theorem k1O_e (h : q ≠ (11, c, 0)) (h2 : ¬ (40 ≤ q.1 ∧ q.1 ≤ 46 ∧ q.2 = (c, 0))) (h3 : ¬ (q = (10, 0, 0) ∧ k = 1)) : q_k1O O c q k = O q k := by
  unfold q_k1O
  have e : ∀ Z : jc_O, jc_up Z (10, 0, 0) 1 (some (11, c, 0)) q k = Z q k := fun Z => if_neg h3
  have g : ∀ a : Nat, 40 ≤ a → a ≤ 46 → q ≠ (a, c, 0) := fun a x y e => h2 (by rw [e]; exact ⟨x, y, rfl⟩)
  have cl : ∀ (Z : jc_O) (q9 : jc_L), q ≠ q9 → jc_cl Z q9 none q k = Z q k := fun Z q9 h => if_neg h
  rw [e]
  unfold qc_O
  rw [jc_up_q _ _ _ _ _ _ h, cl _ _ (g 46 (by decide) (by decide)), jc_up_q _ _ _ _ _ _ h, cl _ _ (g 45 (by decide) (by decide)), jc_up_q _ _ _ _ _ _ h, cl _ _ (g 44 (by decide) (by decide)), jc_up_q _ _ _ _ _ _ h, cl _ _ (g 43 (by decide) (by decide)), jc_up_q _ _ _ _ _ _ h, cl _ _ (g 42 (by decide) (by decide)), jc_up_q _ _ _ _ _ _ h, cl _ _ (g 41 (by decide) (by decide)), jc_up_q _ _ _ _ _ _ h, cl _ _ (g 40 (by decide) (by decide)), cl _ _ h]
theorem k1O_11 : qc (q_k1O O c) c ∧ q_k1O O c (10, 0, 0) 1 = some (11, c, 0) := by
  refine ⟨?_, jc_up_s _ _ _ _⟩
  unfold qc q_k1O
  have e : ∀ (Z : jc_O) (i : Nat), jc_up Z (10, 0, 0) 1 (some (11, c, 0)) (11, c, 0) i = Z (11, c, 0) i := fun Z i => jc_up_t _ _ _ _ _ _ _ _ (by decide)
  have cl : ∀ (Z : jc_O) (a i : Nat), 40 ≤ a → jc_cl Z (a, c, 0) none (11, c, 0) i = Z (11, c, 0) i := fun Z a i h => if_neg (fun g => by have := congrArg Prod.fst g; dsimp only at this; omega)
  rw [e, e, e, e, e, e, e]
  unfold qc_O
  refine ⟨?_, ?_, ?_, ?_, ?_, ?_, jc_up_s _ _ _ _⟩
  · rw [jc_up_k _ _ _ _ _ _ (by decide), cl _ _ _ (by decide), jc_up_k _ _ _ _ _ _ (by decide), cl _ _ _ (by decide), jc_up_k _ _ _ _ _ _ (by decide), cl _ _ _ (by decide), jc_up_k _ _ _ _ _ _ (by decide), cl _ _ _ (by decide), jc_up_k _ _ _ _ _ _ (by decide), cl _ _ _ (by decide), jc_up_k _ _ _ _ _ _ (by decide), cl _ _ _ (by decide), jc_up_s]
  · rw [jc_up_k _ _ _ _ _ _ (by decide), cl _ _ _ (by decide), jc_up_k _ _ _ _ _ _ (by decide), cl _ _ _ (by decide), jc_up_k _ _ _ _ _ _ (by decide), cl _ _ _ (by decide), jc_up_k _ _ _ _ _ _ (by decide), cl _ _ _ (by decide), jc_up_k _ _ _ _ _ _ (by decide), cl _ _ _ (by decide), jc_up_s]
  · rw [jc_up_k _ _ _ _ _ _ (by decide), cl _ _ _ (by decide), jc_up_k _ _ _ _ _ _ (by decide), cl _ _ _ (by decide), jc_up_k _ _ _ _ _ _ (by decide), cl _ _ _ (by decide), jc_up_k _ _ _ _ _ _ (by decide), cl _ _ _ (by decide), jc_up_s]
  · rw [jc_up_k _ _ _ _ _ _ (by decide), cl _ _ _ (by decide), jc_up_k _ _ _ _ _ _ (by decide), cl _ _ _ (by decide), jc_up_k _ _ _ _ _ _ (by decide), cl _ _ _ (by decide), jc_up_s]
  · rw [jc_up_k _ _ _ _ _ _ (by decide), cl _ _ _ (by decide), jc_up_k _ _ _ _ _ _ (by decide), cl _ _ _ (by decide), jc_up_s]
  · rw [jc_up_k _ _ _ _ _ _ (by decide), cl _ _ _ (by decide), jc_up_s]
theorem k1l_e (h : q ≠ (11, c, 0)) (h2 : ¬ (40 ≤ q.1 ∧ q.1 ≤ 46 ∧ q.2 = (c, 0))) (g : q_k1l lv c q) : lv q := by
  have g9 : ∀ a : Nat, 40 ≤ a → a ≤ 46 → q ≠ (a, c, 0) := fun a x y e => h2 (by rw [e]; exact ⟨x, y, rfl⟩)
  rcases g with g | g | g | g | g | g | g | g | g
  · exact absurd g (g9 46 (by decide) (by decide))
  · exact absurd g (g9 45 (by decide) (by decide))
  · exact absurd g (g9 44 (by decide) (by decide))
  · exact absurd g (g9 43 (by decide) (by decide))
  · exact absurd g (g9 42 (by decide) (by decide))
  · exact absurd g (g9 41 (by decide) (by decide))
  · exact absurd g (g9 40 (by decide) (by decide))
  · exact absurd g h
  · exact g
end
theorem qCo_sto {k : Nat} : jc_sto "java/lang/Object" (some (qCo k)) := fun q9 e9 => by cases e9; exact ⟨_, _, rfl, rfl, Or.inr ca_mC_oO⟩
theorem GR.new {I : jc_I} {P : jc_O} {lv : jc_L → Prop} {b n sn cn zc : Nat} {D fn : Nat → Nat} {p r : Int32} (h : GR I P lv b n 0 sn cn zc D fn) (hcn : cn < 40) (hp : 0 ≤ p ∧ p ≤ 8) : GR (q_ki I P lv cn p r).1 (q_ki I P lv cn p r).2.1 (q_ki I P lv cn p r).2.2.1 b n 0 sn (cn + 1) zc D fn := by
  have eI : ∀ q k, q ≠ (11, cn, 0) → ¬ (40 ≤ q.1 ∧ q.1 ≤ 46 ∧ q.2 = (cn, 0)) → q ≠ (15, 0, 0) → (∀ z, q ≠ (60, 0, z)) → (q_ki I P lv cn p r).1 q k = I q k := fun q k g1 g2 g3 g4 => (l_add_Iq g3 g4).trans (k1_e g1 g2)
  have eO : ∀ q k, q ≠ (11, cn, 0) → ¬ (40 ≤ q.1 ∧ q.1 ≤ 46 ∧ q.2 = (cn, 0)) → ¬ (q = (10, 0, 0) ∧ k = 1) → q ≠ (15, 0, 0) → (∀ z, q ≠ (60, 0, z)) → (q_ki I P lv cn p r).2.1 q k = P q k := fun q k g1 g2 g5 g3 g4 => (l_add_Oq g3 g4).trans (k1O_e g1 g2 g5)
  have eL : ∀ q, q ≠ (11, cn, 0) → ¬ (40 ≤ q.1 ∧ q.1 ≤ 46 ∧ q.2 = (cn, 0)) → (∀ z, q ≠ (60, 0, z)) → (q_ki I P lv cn p r).2.2.1 q → lv q := fun q g1 g2 g4 g => by
    rcases l_add_l g with w | ⟨z, w⟩
    · exact k1l_e g1 g2 w
    · exact absurd w (g4 z)
  have hl : ∀ y, y ≠ 0 → ∀ {m : Nat} {f : Nat → jc_L}, ql I P lv y m f → ql (q_ki I P lv cn p r).1 (q_ki I P lv cn p r).2.1 (q_ki I P lv cn p r).2.2.1 y m f := fun y hy m f g => (g.k1).other hy
  have hl0 : ql (q_ki I P lv cn p r).1 (q_ki I P lv cn p r).2.1 (q_ki I P lv cn p r).2.2.1 0 (cn + 1) qCo := (h.qa.2.1.k1 (cn := cn) (p := p) (r := r)).add (by omega) qCo_sto
  have v11 : ∀ i, (q_ki I P lv cn p r).1 (11, cn, 0) i = q_k1 I cn p r (11, cn, 0) i := fun i => l_add_Iq (by simp) (by simp)
  have w11 : ∀ i, (q_ki I P lv cn p r).2.1 (11, cn, 0) i = q_k1O P cn (11, cn, 0) i := fun i => l_add_Oq (by simp) (by simp)
  have k11 := k1_11 (I := I) (c := cn) (p := p) (r := r)
  have o11 := k1O_11 (O := P) (c := cn)
  generalize q_ki I P lv cn p r = Z at *
  have hM2 : qM Z.2.1 := ⟨(eO _ _ (by simp) (by simp) (by simp) (by simp) (by simp)).trans h.qa.1.1, (eO _ _ (by simp) (by simp) (by simp) (by simp) (by simp)).trans h.qa.1.2.1, (eO _ _ (by simp) (by simp) (by simp) (by simp) (by simp)).trans h.qa.1.2.2.1, (eO _ _ (by simp) (by simp) (by simp) (by simp) (by simp)).trans h.qa.1.2.2.2.1, (eO _ _ (by simp) (by simp) (by simp) (by simp) (by simp)).trans h.qa.1.2.2.2.2⟩
  refine ⟨⟨hM2, hl0, fun d hd => ?_⟩, ⟨hM2.2.2.2.2, ?_⟩, hl 2 (by decide) h.ob, hl 1 (by decide) h.th, fun k hk => (eO _ _ (by simp) (by simp) (by simp) (by simp) (by simp)).trans (h.of k hk), fun k hk => ⟨fun w => (h.o2 k hk).1 (eL _ (by simp) (by simp) (by simp) w), fun w => (h.o2 k hk).2 (eL _ (by simp) (by simp) (by simp) w)⟩, (eI _ _ (by simp) (by simp) (by simp) (by simp)).trans h.mk, h.mb, h.n3, (eI _ _ (by simp) (by simp) (by simp) (by simp)).trans h.tc1, fun t ht => ?_, fun t i hi => ?_, fun t i k hi => ?_, h.f0, fun t ht => ?_, fun c hc => ?_, fun z hz w => h.mt z hz (eL _ (by simp) (by simp) (by simp) w)⟩
  · by_cases g : d = cn
    · subst g
      refine ⟨?_, ?_, ?_⟩
      · have := o11.1
        unfold qc at *
        rw [w11, w11, w11, w11, w11, w11, w11]
        exact this
      · unfold qn
        rw [v11, v11, v11, k11.2.2 3 (by decide), k11.2.2 6 (by decide), k11.2.2 11 (by decide)]
        decide
      · rw [v11, k11.1]
        exact hp
    · obtain ⟨w1, w2, w3⟩ := h.qa.2.2 d (by omega)
      refine ⟨?_, ?_, by rw [eI _ _ (by simp [g]) (by simp) (by simp) (by simp)]; exact w3⟩
      · unfold qc at *
        rw [eO _ _ (by simp [g]) (by simp) (by simp) (by simp) (by simp), eO _ _ (by simp [g]) (by simp) (by simp) (by simp) (by simp), eO _ _ (by simp [g]) (by simp) (by simp) (by simp) (by simp), eO _ _ (by simp [g]) (by simp) (by simp) (by simp) (by simp), eO _ _ (by simp [g]) (by simp) (by simp) (by simp) (by simp), eO _ _ (by simp [g]) (by simp) (by simp) (by simp) (by simp), eO _ _ (by simp [g]) (by simp) (by simp) (by simp) (by simp)]
        exact w1
      · unfold qn at *
        rw [eI _ _ (by simp [g]) (by simp) (by simp) (by simp), eI _ _ (by simp [g]) (by simp) (by simp) (by simp), eI _ _ (by simp [g]) (by simp) (by simp) (by simp)]
        exact w2
  · rw [eI _ _ (by simp) (by simp) (by simp) (by simp)]
    exact h.k.2
  · obtain ⟨t1, t2, t3, t4, t5, t6, t7⟩ := h.ts t ht
    have hc : lcap Z.2.1 (10 + t) = lcap P (10 + t) := by unfold lcap; rw [eO _ _ (by simp) (by simp) (by simp) (by simp) (by simp)]
    refine ⟨(eO _ _ (by simp) (by simp) (by simp) (by simp) (by simp)).trans t1, hl _ (by omega) t2, (eI _ _ (by simp) (by simp) (by simp) (by simp)).trans t3, t4, t5, fun i hi => ?_, by rw [hc]; exact t7⟩
    unfold qf
    rw [eO _ _ (by simp) (by simp) (by simp) (by simp) (by simp), eO _ _ (by simp) (by simp) (by simp) (by simp) (by simp)]
    exact t6 i hi
  · obtain ⟨g1, g2, g3⟩ := h.ff t i hi
    exact ⟨fun w => g1 (eL _ (by simp) (by simp) (by simp) w), fun w => g2 (eL _ (by simp) (by simp) (by simp) w), fun w => g3 (eL _ (by simp) (by simp) (by simp) w)⟩
  · rw [eI _ _ (by simp) (by simp) (by simp) (by simp), eI _ _ (by simp) (by simp) (by simp) (by simp), eI _ _ (by simp) (by simp) (by simp) (by simp)]
    exact h.fz t i k hi
  · obtain ⟨g1, g2, g3⟩ := h.tf t ht
    exact ⟨fun w => g1 (eL _ (by simp) (by simp) (by simp) w), fun w => g2 (eL _ (by simp) (by simp) (by simp) w), fun c w => g3 c (eL _ (by simp) (by simp) (by simp) w)⟩
  · have g : c ≠ cn := by omega
    obtain ⟨g1, g2, g3, g4, g5, g6, g7, g8⟩ := h.cf c (by omega)
    exact ⟨fun w => g1 (eL _ (by simp [g]) (by simp) (by simp) w), fun w => g2 (eL _ (by simp) (by simp [g]) (by simp) w), fun w => g3 (eL _ (by simp) (by simp [g]) (by simp) w), fun w => g4 (eL _ (by simp) (by simp [g]) (by simp) w), fun w => g5 (eL _ (by simp) (by simp [g]) (by simp) w), fun w => g6 (eL _ (by simp) (by simp [g]) (by simp) w), fun w => g7 (eL _ (by simp) (by simp [g]) (by simp) w), fun w => g8 (eL _ (by simp) (by simp [g]) (by simp) w)⟩
