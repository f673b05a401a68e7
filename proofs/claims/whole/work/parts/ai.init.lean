def I0 (xs : Nat → Int32) : jc_I := fun q k => if q.1 = 96 then xs k else 0
def O0 : jc_O := fun _ _ => none
def l0 (Ln : Nat) : jc_L → Prop := fun q => q = (96, Ln, 0) ∨ q = (97, 0, 0) ∨ q = (98, 0, 0)
def X0 (xs : Nat → Int32) : jc_I := q_iI (jc_cl (j_iI (jc_cl (I0 xs) (0, 0, 0) 0)) (10, 0, 0) 0)
def Y0 : jc_O := q_iO (jc_cl (j_iO (jc_cl O0 (0, 0, 0) none)) (10, 0, 0) none)
def L0 (Ln : Nat) : jc_L → Prop := q_il (fun q' => q' = (10, 0, 0) ∨ j_il (fun q' => q' = (0, 0, 0) ∨ l0 Ln q') q')
theorem z_cl {J : jc_I} {q0 q : jc_L} {k : Nat} (h : J q k = 0) : jc_cl J q0 0 q k = 0 := by
  unfold jc_cl
  split
  · rfl
  · exact h
theorem z_up {J : jc_I} {q0 q : jc_L} {k0 k : Nat} (h : J q k = 0) : jc_up J q0 k0 0 q k = 0 := by
  unfold jc_up
  split
  · rfl
  · exact h
theorem X0_z {xs : Nat → Int32} {q : jc_L} {k : Nat} (h : q.1 ≠ 96) : X0 xs q k = 0 := by
  unfold X0 q_iI j_iI
  have h0 : I0 xs q k = 0 := if_neg h
  repeat first | exact h0 | apply z_cl | apply z_up
theorem gc0 {xs : Nat → Int32} {Ln : Nat} : GC (X0 xs) Y0 (L0 Ln) 0 0 0 0 (fun _ => 0) := by
  have n0 : (0 : Int32).toInt = 0 := by decide
  refine ⟨⟨rfl, rfl, rfl, rfl⟩, ⟨rfl, rfl, rfl, rfl⟩, ⟨rfl, rfl, rfl, rfl, rfl⟩, ⟨rfl, rfl, ?_, ?_, fun k hk => ?_⟩, ⟨rfl, ?_, ?_, fun k hk => ?_⟩, ⟨?_, ?_, fun c hc => ?_, fun c hc => ?_, fun c hc => ?_, fun c hc => ?_, fun c i hc => ?_⟩, ⟨?_, ?_, fun k hk => ?_, fun k i hk => ?_, fun i hi => ?_⟩, by decide, ⟨rfl, fun k hk => Or.inr ⟨rfl, ?_, ?_⟩⟩, fun c hc => ?_, fun c i hc => ?_, fun c r hc => ?_, ?_, by decide, fun c hc => ⟨?_, ?_, ?_, ?_, ?_⟩, fun c r k hc => ⟨?_, ?_⟩, fun c r hc => ?_, ?_, by decide, by decide, fun t ht => ?_, fun t ht => ⟨rfl, ?_, ?_, fun j => ⟨?_, ?_, ?_⟩⟩, fun t ht => ?_⟩
  · rw [X0_z (by exact Nat.ne_of_beq_eq_false rfl)]; decide
  · rw [X0_z (by exact Nat.ne_of_beq_eq_false rfl)]; decide
  · rw [X0_z (by exact Nat.ne_of_beq_eq_false rfl), n0] at hk; omega
  · rw [X0_z (by exact Nat.ne_of_beq_eq_false rfl)]; decide
  · rw [X0_z (by exact Nat.ne_of_beq_eq_false rfl)]; decide
  · rw [X0_z (by exact Nat.ne_of_beq_eq_false rfl), n0] at hk; omega
  · show 0 ≤ X0 xs (1, 0, 0) 1
    rw [X0_z (by exact Nat.ne_of_beq_eq_false rfl)]; decide
  · show X0 xs (1, 0, 0) 1 ≤ 40
    rw [X0_z (by exact Nat.ne_of_beq_eq_false rfl)]; decide
  · have hc : (c : Int) < (X0 xs (1, 0, 0) 1).toInt := hc
    rw [X0_z (by exact Nat.ne_of_beq_eq_false rfl), n0] at hc; omega
  · have hc : (c : Int) < (X0 xs (1, 0, 0) 1).toInt := hc
    rw [X0_z (by exact Nat.ne_of_beq_eq_false rfl), n0] at hc; omega
  · have hc : (c : Int) < (X0 xs (1, 0, 0) 1).toInt := hc
    rw [X0_z (by exact Nat.ne_of_beq_eq_false rfl), n0] at hc; omega
  · have hc : (c : Int) < (X0 xs (1, 0, 0) 1).toInt := hc
    rw [X0_z (by exact Nat.ne_of_beq_eq_false rfl), n0] at hc; omega
  · have hc : (c : Int) < (X0 xs (1, 0, 0) 1).toInt := hc
    rw [X0_z (by exact Nat.ne_of_beq_eq_false rfl), n0] at hc; omega
  · rw [X0_z (by exact Nat.ne_of_beq_eq_false rfl)]; decide
  · rw [X0_z (by exact Nat.ne_of_beq_eq_false rfl)]; decide
  · rw [X0_z (by exact Nat.ne_of_beq_eq_false rfl), n0] at hk; omega
  · rw [X0_z (by exact Nat.ne_of_beq_eq_false rfl), n0] at hk; omega
  · rw [X0_z (by exact Nat.ne_of_beq_eq_false rfl)]
    refine ⟨by decide, ?_⟩
    rw [X0_z (by exact Nat.ne_of_beq_eq_false rfl)]; decide
  · intro h; simp [L0, q_il, j_il, l0, jadd] at h
  · intro h; simp [L0, q_il, j_il, l0, jadd] at h
  · have hc : (c : Int) < (X0 xs (1, 0, 0) 1).toInt := hc
    rw [X0_z (by exact Nat.ne_of_beq_eq_false rfl), n0] at hc; omega
  · exact absurd hc (Nat.not_lt_zero _)
  · exact absurd hc (Nat.not_lt_zero _)
  · rw [X0_z (by exact Nat.ne_of_beq_eq_false rfl)]; rfl
  · intro h; simp [L0, q_il, j_il, l0, jadd] at h
  · intro h; simp [L0, q_il, j_il, l0, jadd] at h
  · intro h; simp [L0, q_il, j_il, l0, jadd] at h
  · intro h; simp [L0, q_il, j_il, l0, jadd] at h
  · intro h; simp [L0, q_il, j_il, l0, jadd] at h
  · exact X0_z (by exact Nat.ne_of_beq_eq_false rfl)
  · intro h; simp [L0, q_il, j_il, l0, jadd] at h
  · exact absurd hc (Nat.not_lt_zero _)
  · rw [X0_z (by exact Nat.ne_of_beq_eq_false rfl)]; rfl
  · exact absurd ht (Nat.not_lt_zero _)
  · intro h; simp [L0, q_il, j_il, l0, jadd] at h
  · intro h; simp [L0, q_il, j_il, l0, jadd] at h
  · intro h; simp [L0, q_il, j_il, l0, jadd] at h
  · intro h; simp [L0, q_il, j_il, l0, jadd] at h
  · intro h; simp [L0, q_il, j_il, l0, jadd] at h
  · exact absurd ht (Nat.not_lt_zero _)
theorem ql0 {xs : Nat → Int32} {Ln x : Nat} {f : Nat → jc_L} (hx : x = 0 ∨ x = 1 ∨ x = 2) : ql (X0 xs) Y0 (L0 Ln) x 0 f := by
  have hc : lcap Y0 x = 0 := by rcases hx with rfl | rfl | rfl <;> rfl
  refine ⟨X0_z (by exact Nat.ne_of_beq_eq_false rfl), Nat.zero_le _, by rw [hc]; decide, ?_, fun k hk => absurd hk (Nat.not_lt_zero _), fun c hc h => ?_, fun k hk => absurd hk (Nat.not_lt_zero _)⟩
  · rw [hc]
    rcases hx with rfl | rfl | rfl <;> rfl
  · simp [L0, q_il, j_il, l0, jadd] at h
theorem gr0 {xs : Nat → Int32} {Ln : Nat} : GR (X0 xs) Y0 (L0 Ln) 0 0 0 0 0 0 (fun _ => 0) (fun _ => 0) := by
  refine ⟨⟨⟨rfl, rfl, rfl, rfl, rfl⟩, ql0 (by omega), fun d hd => absurd hd (Nat.not_lt_zero _)⟩, ⟨rfl, ?_, ?_⟩, ql0 (by omega), ql0 (by omega), fun k hk => absurd hk (Nat.not_lt_zero _), fun k hk => ⟨?_, ?_⟩, X0_z (by exact Nat.ne_of_beq_eq_false rfl), by decide, by decide, X0_z (by exact Nat.ne_of_beq_eq_false rfl), fun t ht => absurd ht (Nat.not_lt_zero _), fun t i hi => ⟨?_, ?_, ?_⟩, fun t i k hi => ⟨X0_z (by exact Nat.ne_of_beq_eq_false rfl), X0_z (by exact Nat.ne_of_beq_eq_false rfl), X0_z (by exact Nat.ne_of_beq_eq_false rfl)⟩, fun t ht => ⟨rfl, rfl⟩, fun t ht => ⟨?_, ?_, fun c => ?_⟩, fun c hc => ⟨?_, ?_, ?_, ?_, ?_, ?_, ?_, ?_⟩, fun z hz => ?_⟩
  · rw [X0_z (by exact Nat.ne_of_beq_eq_false rfl)]; decide
  · rw [X0_z (by exact Nat.ne_of_beq_eq_false rfl)]; decide
  all_goals intro h; simp [L0, q_il, j_il, l0, jadd] at h
  all_goals omega
theorem sm0 {xs : Nat → Int32} : SimF 0 0 (fun _ => 0) (X0 xs) (X0 xs) := (show SimF 0 0 (fun _ => 0) (fun _ _ => 0) (fun _ _ => 0) from fun x q k z hz => rfl).to (fun q k hq => X0_z (by have := isC_s hq; omega)) (fun q k hq => X0_z (by have := isR_s hq; omega))
theorem gs0 {xs : Nat → Int32} {Ln : Nat} : GS (X0 xs) Y0 (L0 Ln) 0 0 :=
  ⟨0, 0, 0, 0, 0, 0, fun _ => 0, fun _ => 0, rfl, gc0, gr0, ⟨sm0, X0_z (by exact Nat.ne_of_beq_eq_false rfl), fun t ht => absurd ht (Nat.not_lt_zero _), fun t ht => absurd ht (Nat.not_lt_zero _), Or.inl ⟨rfl, rfl⟩⟩⟩
theorem law_all {xs : Nat → Int32} {Ln : Nat} (hL : Ln ≤ 2560) : ∃ Z, gZ Z ∧ jc_R y_L_law 0 [some (.inr (some (96, Ln, 0))), none, none, none] [] (I0 xs) O0 (l0 Ln) 0 0 Z := by
  have hb2 : lcap Y0 2 = 0 := rfl
  obtain ⟨Z, hZ, h⟩ := law_loop (xs := xs) (Ln := Ln) hL (Ln / 5) 0 (X0 xs) Y0 (L0 Ln) 0 19 2264 ⟨gs0, fun j => rfl, by omega, by omega⟩ (by omega) (by omega)
  refine ⟨Z, hZ, ?_⟩
  obtain ⟨-, z1, z2⟩ := hZ
  refine jr_new (0, 0, 0) d_L_law_0 n_L_7 rfl (fun h => by simp [l0] at h) (by rw [z1]; decide) (by rw [z2]; decide) ?_
  refine jr_dup d_L_law_3 ?_
  refine jv_I0vA d_L_law_4 l_L_9 k_J_init ⟨Nat.le_of_ble_eq_true rfl, Nat.le_of_ble_eq_true rfl⟩ (Nat.le_of_ble_eq_true rfl) (ct_J_init (fun h => by simp [l0] at h) (fun h => by simp [l0] at h) (fun h => by simp [l0] at h) (fun h => by simp [l0] at h) (fun h => by simp [l0] at h) (fun h => by simp [l0] at h) (fun h => by simp [l0] at h) (fun h => by simp [l0] at h) (fun h => by simp [l0] at h) (fun h => by simp [l0] at h) (fun h => by simp [l0] at h) (fun h => by simp [l0] at h)) (fun q9 h9 => by unfold j_il jadd; simp only [h9, or_true]) (by rw [z1]; decide) (by rw [z2]; decide) ?_
  refine jr_astore_n d_L_law_7 rfl (Nat.le_of_ble_eq_true rfl) ?_
  refine jr_new (10, 0, 0) d_L_law_8 n_L_10 rfl (fun h => by simp [l0, j_il, jadd] at h) (by rw [z1]; decide) (by rw [z2]; decide) ?_
  refine jr_dup d_L_law_11 ?_
  refine jv_I0vA d_L_law_12 l_L_12 k_m_init ⟨Nat.le_of_ble_eq_true rfl, Nat.le_of_ble_eq_true rfl⟩ (Nat.le_of_ble_eq_true rfl) (ct_m_init (fun h => by simp [l0, j_il, jadd] at h) (fun h => by simp [l0, j_il, jadd] at h) (fun h => by simp [l0, j_il, jadd] at h) (fun h => by simp [l0, j_il, jadd] at h) (fun h => by simp [l0, j_il, jadd] at h)) (fun q9 h9 => by unfold q_il jadd; simp only [h9, or_true]) (by rw [z1]; decide) (by rw [z2]; decide) ?_
  refine jr_astore_n d_L_law_15 rfl (Nat.le_of_ble_eq_true rfl) ?_
  refine jr_iconst (v := 0) d_L_law_16 (by decide) ?_
  refine jr_istore_n d_L_law_17 rfl (Nat.le_of_ble_eq_true rfl) ?_
  exact h
