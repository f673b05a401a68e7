theorem p_run_some {B : jc_B} {c n : Nat} (h : (p_run B c n).isSome) : ∀ i, i ≤ n → ∃ K, p_run B c i = some K := by
  intro i hi
  cases hx : p_run B c i with
  | none =>
    have := p_run_none (B := B) (c := c) (n - i) i hx
    rw [show i + (n - i) = n from by omega] at this
    rw [this] at h
    cases h
  | some K => exact ⟨K, rfl⟩
theorem p_good.at_ {B : jc_B} {c : Nat} (h : p_good B c) {i : Nat} (hi : i < (B.sz c).toNatClampNeg) : ∃ K K', p_at B c i = some K ∧ p_ins B c (B.op c i) (B.an c i) K = some K' ∧ p_run B c (i + 1) = some K' := by
  obtain ⟨K0, h0⟩ := p_run_some h.2.2.2.2.2 i (by omega)
  obtain ⟨K', h1⟩ := p_run_some h.2.2.2.2.2 (i + 1) (by omega)
  have h2 := h1
  rw [p_run, ← p_at_run] at h2
  cases hx : p_at B c i with
  | none => rw [hx] at h2; cases h2
  | some K =>
    rw [hx] at h2
    exact ⟨K, K', rfl, h2, h1⟩
theorem p_good.on {B : jc_B} {c : Nat} (h : p_good B c) {i : Nat} (hi : i < (B.sz c).toNatClampNeg) (hl : ¬ p_lst (B.op c i)) : i + 1 < (B.sz c).toNatClampNeg ∧ p_at B c (i + 1) = p_run B c (i + 1) := by
  have h0 : i + 1 < (B.sz c).toNatClampNeg := by
    refine Nat.lt_of_le_of_ne hi (fun e => hl ?_)
    have h1 : 1 ≤ B.sz c := by have := jlt.mp h.1; rw [jle, j1I]; rw [j0I] at this; omega
    have e2 : (B.sz c - 1).toNatClampNeg = i := by
      have := jsubN h1
      have h3 := jNI (i := B.sz c) (by have := jlt.mp h.1; rw [j0I] at this; rw [jle, j0I]; omega)
      omega
    have := h.2.1
    rw [e2] at this
    exact this
  refine ⟨h0, ?_⟩
  obtain ⟨K, K', a1, a2, a3⟩ := h.at_ h0
  obtain ⟨K1, b1⟩ := p_run_some h.2.2.2.2.2 (i + 1) (by omega)
  rw [p_at_run, b1] at a1 ⊢
  show p_arr B c (i + 1) K1 = some K1
  have a1 : p_arr B c (i + 1) K1 = some K := a1
  unfold p_arr at a1 ⊢
  have ho : p_on B c (i + 1) := Or.inr hl
  rw [if_pos ho] at a1 ⊢
  split at a1
  · rename_i hc; rw [if_pos hc]
  · cases a1
theorem p_good.lbl {B : jc_B} {c : Nat} (h : p_good B c) {i : Nat} (hi : i < (B.sz c).toNatClampNeg) (hl : p_lbl B c (Int32.ofNat i)) (ht : ¬ p_tkr B c (Int32.ofNat i)) : p_at B c i = some [] := by
  obtain ⟨K, K', a1, a2, a3⟩ := h.at_ hi
  obtain ⟨K1, b1⟩ := p_run_some h.2.2.2.2.2 i (by omega)
  rw [p_at_run, b1] at a1 ⊢
  show p_arr B c i K1 = some []
  have a1 : p_arr B c i K1 = some K := a1
  unfold p_arr at a1 ⊢
  by_cases ho : p_on B c i
  · rw [if_pos ho] at a1 ⊢
    split at a1
    · rename_i hc
      rcases hc with hc | hc
      · exact absurd hl hc
      · rw [if_pos (Or.inr hc), hc.2]
    · cases a1
  · rw [if_neg ho, if_pos hl, if_neg ht]
theorem p_good.tkr {B : jc_B} {c : Nat} (h : p_good B c) {i : Nat} (hi : i < (B.sz c).toNatClampNeg) (ht : p_tkr B c (Int32.ofNat i)) : p_at B c i = some [2] := by
  obtain ⟨K, K', a1, a2, a3⟩ := h.at_ hi
  obtain ⟨K1, b1⟩ := p_run_some h.2.2.2.2.2 i (by omega)
  rw [p_at_run, b1] at a1 ⊢
  show p_arr B c i K1 = some [2]
  have a1 : p_arr B c i K1 = some K := a1
  unfold p_arr at a1 ⊢
  by_cases ho : p_on B c i
  · rw [if_pos ho] at a1 ⊢
    split at a1
    · rename_i hc
      rcases hc with hc | hc
      · exact absurd ht.lbl hc
      · exact absurd ht hc.1
    · cases a1
  · rw [if_neg ho, if_pos ht.lbl, if_pos ht]
theorem p_good.jump {B : jc_B} {c : Nat} (h : p_good B c) {i : Nat} (hi : i < (B.sz c).toNatClampNeg) (hj : p_jmp (B.op c i)) (hs : (B.sz c).toNatClampNeg ≤ 60) (ht : ¬ p_tkr B c (B.an c i)) : 0 ≤ B.an c i ∧ (B.an c i).toNatClampNeg < (B.sz c).toNatClampNeg ∧ p_at B c (B.an c i).toNatClampNeg = some [] := by
  have hp := h.2.2.2.1 i hi hj
  have h1 := jNI hp.1
  have h2 := jlt.mp hp.2
  have h3 := jNI (i := B.sz c) (by have := jlt.mp h.1; rw [j0I] at this; rw [jle, j0I]; omega)
  have hlt : (B.an c i).toNatClampNeg < (B.sz c).toNatClampNeg := by omega
  have e : Int32.ofNat (B.an c i).toNatClampNeg = B.an c i := by
    apply Int32.toInt_inj.mp
    rw [jofI (by omega), h1]
  refine ⟨hp.1, hlt, h.lbl hlt ?_ ?_⟩
  · rw [e]; exact Or.inr ⟨i, hi, hj, rfl⟩
  · rw [e]; exact ht
theorem p_good.row {B : jc_B} {c : Nat} (h : p_good B c) {r : Nat} (hr : r < (B.rc c).toNatClampNeg) (hs : (B.sz c).toNatClampNeg ≤ 60) : 0 ≤ B.at_ c r ∧ (B.at_ c r).toNatClampNeg < (B.sz c).toNatClampNeg ∧ p_at B c (B.at_ c r).toNatClampNeg = some [2] := by
  have hp := (h.2.2.2.2.1 r hr).2.2
  have h1 := jNI hp.1
  have h2 := jlt.mp hp.2
  have h3 := jNI (i := B.sz c) (by have := jlt.mp h.1; rw [j0I] at this; rw [jle, j0I]; omega)
  have hlt : (B.at_ c r).toNatClampNeg < (B.sz c).toNatClampNeg := by omega
  have e : Int32.ofNat (B.at_ c r).toNatClampNeg = B.at_ c r := by
    apply Int32.toInt_inj.mp
    rw [jofI (by omega), h1]
  refine ⟨hp.1, hlt, h.tkr hlt ?_⟩
  rw [e]
  exact ⟨r, hr, rfl⟩
theorem p_good.zero {B : jc_B} {c : Nat} (h : p_good B c) : p_at B c 0 = some [] ∧ 0 < (B.sz c).toNatClampNeg := by
  have h3 := jNI (i := B.sz c) (by have := jlt.mp h.1; rw [j0I] at this; rw [jle, j0I]; omega)
  have h4 := jlt.mp h.1
  rw [j0I] at h4
  have h5 : 0 < (B.sz c).toNatClampNeg := by omega
  refine ⟨?_, h5⟩
  obtain ⟨K, K', a1, a2, a3⟩ := h.at_ h5
  have a1 : p_arr B c 0 [] = some K := a1
  show p_arr B c 0 [] = some []
  unfold p_arr at a1 ⊢
  rw [if_pos (show p_on B c 0 from Or.inl rfl)] at a1 ⊢
  split at a1
  · rename_i hc; rw [if_pos hc]
  · cases a1
def p_rch (B : jc_B) (c d : Nat) : Prop := ∀ P : Nat → Prop, P c → (∀ d i : Nat, P d → i < (B.sz d).toNatClampNeg → B.op d i = 18 → 0 ≤ B.an d i → B.an d i < B.cn → P (B.an d i).toNatClampNeg) → P d
theorem p_rch.self {B : jc_B} {c : Nat} : p_rch B c c := fun _ h _ => h
theorem p_rch.call {B : jc_B} {c d i : Nat} (h : p_rch B c d) (h1 : i < (B.sz d).toNatClampNeg) (h2 : B.op d i = 18) (h3 : 0 ≤ B.an d i) (h4 : B.an d i < B.cn) : p_rch B c (B.an d i).toNatClampNeg := fun P h0 hs => hs d i (h P h0 hs) h1 h2 h3 h4
def p_all (B : jc_B) (c : Nat) : Prop := ∀ d, p_rch B c d → p_good B d
