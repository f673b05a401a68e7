/-- the law between two calls -/
def LI (X : jc_I) (Y : jc_O) (L : jc_L → Prop) (xs : Nat → Int32) (Ln N nc ns c : Nat) : Prop := (GS X Y L (10000 * (c : Int)) N) ∧ (∀ j, X (96, Ln, 0) j = xs j) ∧ (nc ≤ 100 + 4 * N + lcap Y 2 + 200 * c) ∧ (ns ≤ 3000 + 24 * N + 4 * lcap Y 2 + 2000 * c)
theorem LI.gs {X : jc_I} {Y : jc_O} {L : jc_L → Prop} {xs : Nat → Int32} {Ln N nc ns c : Nat} (h9 : LI X Y L xs Ln N nc ns c) : GS X Y L (10000 * (c : Int)) N := h9.1
theorem LI.sc {X : jc_I} {Y : jc_O} {L : jc_L → Prop} {xs : Nat → Int32} {Ln N nc ns c : Nat} (h9 : LI X Y L xs Ln N nc ns c) : ∀ j, X (96, Ln, 0) j = xs j := h9.2.1
theorem LI.b1 {X : jc_I} {Y : jc_O} {L : jc_L → Prop} {xs : Nat → Int32} {Ln N nc ns c : Nat} (h9 : LI X Y L xs Ln N nc ns c) : nc ≤ 100 + 4 * N + lcap Y 2 + 200 * c := h9.2.2.1
theorem LI.b2 {X : jc_I} {Y : jc_O} {L : jc_L → Prop} {xs : Nat → Int32} {Ln N nc ns c : Nat} (h9 : LI X Y L xs Ln N nc ns c) : ns ≤ 3000 + 24 * N + 4 * lcap Y 2 + 2000 * c := h9.2.2.2
def gZ (Z : jc_Z) : Prop := Z.1 = some (.inl 1) ∧ Z.2.2.2.2.1 = 600000 ∧ Z.2.2.2.2.2 = 7302250
theorem GS.bd {X : jc_I} {Y : jc_O} {L : jc_L → Prop} {S : Int} {N : Nat} (h : GS X Y L S N) : N ≤ 40000 ∧ lcap Y 2 ≤ 50000 := by
  obtain ⟨b, n, tc, sn, cn, zc, D, fn, e, hc, hr, hx⟩ := h
  have := hr.mb
  exact ⟨by omega, hr.ob.cp⟩
theorem LI.bd {X : jc_I} {Y : jc_O} {L : jc_L → Prop} {xs : Nat → Int32} {Ln N nc ns c : Nat} (h : LI X Y L xs Ln N nc ns c) (hc : c ≤ 512) : nc ≤ 600000 ∧ ns ≤ 7302250 := by
  have := h.gs.bd
  have := h.b1
  have := h.b2
  omega
theorem ofadd {i j : Nat} (h : i + j < 1000000) : Int32.ofNat i + Int32.ofNat j = Int32.ofNat (i + j) := by
  apply Int32.toInt_inj.mp
  rw [jaddI (by rw [jofI (by omega)]; omega) (by rw [jofI (by omega)]; omega), jofI (by omega), jofI (by omega), jofI (by omega)]
  omega
theorem sin {i Ln : Nat} (h : i < Ln) (hL : Ln ≤ 2560) : vp_in (Int32.ofNat i) Ln := jinv (by rw [jle, jofI (by omega), j0I]; omega) (by rw [jofN (by omega)]; exact h)
theorem law_next {X : jc_I} {Y : jc_O} {L : jc_L → Prop} {Ln i nc ns : Nat} {Z : jc_Z} (hi : i + 5 ≤ Ln) (hL : Ln ≤ 2560) (h : jc_R y_L_law 18 [some (.inr (some (96, Ln, 0))), some (.inr (some (0, 0, 0))), some (.inr (some (10, 0, 0))), some (.inl (Int32.ofNat (i + 5)))] [] X Y L nc ns Z) : jc_R y_L_law 467 [some (.inr (some (96, Ln, 0))), some (.inr (some (0, 0, 0))), some (.inr (some (10, 0, 0))), some (.inl (Int32.ofNat i))] [] X Y L nc ns Z := by
  refine jr_iinc d_L_law_467 rfl (v := Int32.ofNat (i + 5)) (by rw [show Int32.ofInt 5 = Int32.ofNat 5 from by decide]; exact ofadd (by omega)) ?_
  refine jr_goto (tgt := 18) d_L_law_470 (by decide) ?_
  exact h
theorem law_head {X : jc_I} {Y : jc_O} {L : jc_L → Prop} {xs : Nat → Int32} {Ln i nc ns : Nat} {Z : jc_Z} (hi : i + 5 ≤ Ln) (hL : Ln ≤ 2560) (hX : ∀ j, X (96, Ln, 0) j = xs j) (h : jc_R y_L_law 32 [some (.inr (some (96, Ln, 0))), some (.inr (some (0, 0, 0))), some (.inr (some (10, 0, 0))), some (.inl (Int32.ofNat i))] [.inl (xs i &&& 15)] X Y L nc ns Z) : jc_R y_L_law 18 [some (.inr (some (96, Ln, 0))), some (.inr (some (0, 0, 0))), some (.inr (some (10, 0, 0))), some (.inl (Int32.ofNat i))] [] X Y L nc ns Z := by
  refine jr_iload_n d_L_law_18 rfl rfl ?_
  refine jr_aload_n d_L_law_19 rfl rfl ?_
  refine jr_slen d_L_law_20 ?_
  refine jr_iconst (v := 5) d_L_law_21 (by decide) ?_
  refine jr_isub d_L_law_22 ?_
  refine jr_icmp_gt (tgt := 473) d_L_law_23 (by decide) (fun c23 => ?_) (fun c23 => ?_)
  · exfalso
    rw [jlt, jsubI (by rw [jofI (by omega)]; omega) (by decide), jofI (by omega), jofI (by omega), show (5 : Int32).toInt = 5 from by decide] at c23
    omega
  · refine jr_aload_n d_L_law_26 rfl rfl ?_
    refine jr_iload_n d_L_law_27 rfl rfl ?_
    refine jr_sld d_L_law_28 (sin (by omega) hL) ?_
    rw [jofN (by omega), hX]
    refine jr_bipush (v := 15) d_L_law_29 (by decide) ?_
    refine jr_iand d_L_law_31 ?_
    exact h
theorem law_end {X : jc_I} {Y : jc_O} {L : jc_L → Prop} {Ln i nc ns : Nat} (hi : Ln < i + 5) (hi2 : i ≤ Ln) (hL : Ln ≤ 2560) (h1 : nc ≤ 600000) (h2 : ns ≤ 7302250) : jc_R y_L_law 18 [some (.inr (some (96, Ln, 0))), some (.inr (some (0, 0, 0))), some (.inr (some (10, 0, 0))), some (.inl (Int32.ofNat i))] [] X Y L nc ns (some (.inl 1), X, Y, L, 600000, 7302250) := by
  refine jr_iload_n d_L_law_18 rfl rfl ?_
  refine jr_aload_n d_L_law_19 rfl rfl ?_
  refine jr_slen d_L_law_20 ?_
  refine jr_iconst (v := 5) d_L_law_21 (by decide) ?_
  refine jr_isub d_L_law_22 ?_
  refine jr_icmp_gt (tgt := 473) d_L_law_23 (by decide) (fun c23 => ?_) (fun c23 => ?_)
  · refine jr_iconst (v := 1) d_L_law_473 (by decide) ?_
    exact jr_retX (v := some (.inl 1)) d_L_law_474 h1 h2 rfl rfl rfl rfl
  · exfalso
    rw [jlt, jsubI (by rw [jofI (by omega)]; omega) (by decide), jofI (by omega), jofI (by omega), show (5 : Int32).toInt = 5 from by decide] at c23
    omega
theorem law_code {X : jc_I} {Y : jc_O} {L : jc_L → Prop} {xs : Nat → Int32} {Ln N nc ns c i : Nat} (h : LI X Y L xs Ln N nc ns c) (hi : i + 5 ≤ Ln) (hL : Ln ≤ 2560) (hc : c + 1 ≤ 512) (hnx : ∀ (X2 : jc_I) (Y2 : jc_O) (L2 : jc_L → Prop) (N2 nc2 ns2 : Nat), LI X2 Y2 L2 xs Ln N2 nc2 ns2 (c + 1) → ∃ Z, gZ Z ∧ jc_R y_L_law 467 [some (.inr (some (96, Ln, 0))), some (.inr (some (0, 0, 0))), some (.inr (some (10, 0, 0))), some (.inl (Int32.ofNat i))] [] X2 Y2 L2 nc2 ns2 Z) : ∃ Z, gZ Z ∧ jc_R y_L_law 100 [some (.inr (some (96, Ln, 0))), some (.inr (some (0, 0, 0))), some (.inr (some (10, 0, 0))), some (.inl (Int32.ofNat i))] [] X Y L nc ns Z := by
  obtain ⟨v, X1, Y1, L1, mc, ms, X2, Y2, L2, mc', ms', N', hC, hl1, hR, hl2, g2, b1, b2, s1, s2⟩ : ST y_J_code y_m_code [.inl (xs (i + 1)), .inl (xs (i + 2))] X Y L (10000 * (c : Int)) N := st_code h.gs
  have a1 : Int32.ofNat i + 1 = Int32.ofNat (i + 1) := ofadd (j := 1) (by omega)
  have a2 : Int32.ofNat i + 2 = Int32.ofNat (i + 2) := ofadd (j := 2) (by omega)
  have a3 : Int32.ofNat i + 3 = Int32.ofNat (i + 3) := ofadd (j := 3) (by omega)
  have a4 : Int32.ofNat i + 4 = Int32.ofNat (i + 4) := ofadd (j := 4) (by omega)
  have n1 := jofN (n := i + 1) (by omega)
  have n2 := jofN (n := i + 2) (by omega)
  have n3 := jofN (n := i + 3) (by omega)
  have n4 := jofN (n := i + 4) (by omega)
  have e1 := h.b1
  have e2 := h.b2
  have li : LI X2 Y2 L2 xs Ln N' (nc + mc + mc') (ns + ms + ms') (c + 1) := ⟨g2.mono (by omega), fun j => (s2 Ln j).trans (h.sc j), by omega, by omega⟩
  have hX1 : ∀ j, X1 (96, Ln, 0) j = xs j := fun j => (s1 Ln j).trans (h.sc j)
  obtain ⟨Z, hZ, hZR⟩ := hnx X2 Y2 L2 N' _ _ li
  have bd := li.bd hc
  refine ⟨Z, hZ, ?_⟩
  refine jr_aload_n d_L_law_100 rfl rfl ?_
  refine jr_aload_n d_L_law_101 rfl rfl ?_
  refine jr_iload_n d_L_law_102 rfl rfl ?_
  refine jr_iconst (v := 1) d_L_law_103 (by decide) ?_
  refine jr_iadd d_L_law_104 ?_
  rw [a1]
  refine jr_sld d_L_law_105 (sin (by omega) hL) ?_
  rw [n1, h.sc]
  refine jr_aload_n d_L_law_106 rfl rfl ?_
  refine jr_iload_n d_L_law_107 rfl rfl ?_
  refine jr_iconst (v := 2) d_L_law_108 (by decide) ?_
  refine jr_iadd d_L_law_109 ?_
  rw [a2]
  refine jr_sld d_L_law_110 (sin (by omega) hL) ?_
  rw [n2, h.sc]
  refine jv_V2rA d_L_law_111 l_L_13 k_J_code ⟨Nat.le_of_ble_eq_true rfl, Nat.le_of_ble_eq_true rfl⟩ rfl rfl (Nat.le_of_ble_eq_true rfl) hC hl1 (by rw [hZ.2.1]; omega) (by rw [hZ.2.2]; omega) ?_
  refine jr_aload_n d_L_law_114 rfl rfl ?_
  refine jr_aload_n d_L_law_115 rfl rfl ?_
  refine jr_iload_n d_L_law_116 rfl rfl ?_
  refine jr_iconst (v := 1) d_L_law_117 (by decide) ?_
  refine jr_iadd d_L_law_118 ?_
  rw [a1]
  refine jr_sld d_L_law_119 (sin (by omega) hL) ?_
  rw [n1, hX1]
  refine jr_aload_n d_L_law_120 rfl rfl ?_
  refine jr_iload_n d_L_law_121 rfl rfl ?_
  refine jr_iconst (v := 2) d_L_law_122 (by decide) ?_
  refine jr_iadd d_L_law_123 ?_
  rw [a2]
  refine jr_sld d_L_law_124 (sin (by omega) hL) ?_
  rw [n2, hX1]
  refine jv_V2rA d_L_law_125 l_L_17 k_m_code ⟨Nat.le_of_ble_eq_true rfl, Nat.le_of_ble_eq_true rfl⟩ rfl rfl (Nat.le_of_ble_eq_true rfl) hR hl2 (by rw [hZ.2.1]; omega) (by rw [hZ.2.2]; omega) ?_
  refine jr_icmp_eq (tgt := 467) d_L_law_128 (by decide) (fun _ => ?_) (fun c9 => absurd rfl c9)
  exact hZR
theorem law_local {X : jc_I} {Y : jc_O} {L : jc_L → Prop} {xs : Nat → Int32} {Ln N nc ns c i : Nat} (h : LI X Y L xs Ln N nc ns c) (hi : i + 5 ≤ Ln) (hL : Ln ≤ 2560) (hc : c + 1 ≤ 512) (hnx : ∀ (X2 : jc_I) (Y2 : jc_O) (L2 : jc_L → Prop) (N2 nc2 ns2 : Nat), LI X2 Y2 L2 xs Ln N2 nc2 ns2 (c + 1) → ∃ Z, gZ Z ∧ jc_R y_L_law 467 [some (.inr (some (96, Ln, 0))), some (.inr (some (0, 0, 0))), some (.inr (some (10, 0, 0))), some (.inl (Int32.ofNat i))] [] X2 Y2 L2 nc2 ns2 Z) : ∃ Z, gZ Z ∧ jc_R y_L_law 133 [some (.inr (some (96, Ln, 0))), some (.inr (some (0, 0, 0))), some (.inr (some (10, 0, 0))), some (.inl (Int32.ofNat i))] [] X Y L nc ns Z := by
  obtain ⟨v, X1, Y1, L1, mc, ms, X2, Y2, L2, mc', ms', N', hC, hl1, hR, hl2, g2, b1, b2, s1, s2⟩ : ST y_J_local y_m_local [.inl (xs (i + 1))] X Y L (10000 * (c : Int)) N := st_local h.gs
  have a1 : Int32.ofNat i + 1 = Int32.ofNat (i + 1) := ofadd (j := 1) (by omega)
  have a2 : Int32.ofNat i + 2 = Int32.ofNat (i + 2) := ofadd (j := 2) (by omega)
  have a3 : Int32.ofNat i + 3 = Int32.ofNat (i + 3) := ofadd (j := 3) (by omega)
  have a4 : Int32.ofNat i + 4 = Int32.ofNat (i + 4) := ofadd (j := 4) (by omega)
  have n1 := jofN (n := i + 1) (by omega)
  have n2 := jofN (n := i + 2) (by omega)
  have n3 := jofN (n := i + 3) (by omega)
  have n4 := jofN (n := i + 4) (by omega)
  have e1 := h.b1
  have e2 := h.b2
  have li : LI X2 Y2 L2 xs Ln N' (nc + mc + mc') (ns + ms + ms') (c + 1) := ⟨g2.mono (by omega), fun j => (s2 Ln j).trans (h.sc j), by omega, by omega⟩
  have hX1 : ∀ j, X1 (96, Ln, 0) j = xs j := fun j => (s1 Ln j).trans (h.sc j)
  obtain ⟨Z, hZ, hZR⟩ := hnx X2 Y2 L2 N' _ _ li
  have bd := li.bd hc
  refine ⟨Z, hZ, ?_⟩
  refine jr_aload_n d_L_law_133 rfl rfl ?_
  refine jr_aload_n d_L_law_134 rfl rfl ?_
  refine jr_iload_n d_L_law_135 rfl rfl ?_
  refine jr_iconst (v := 1) d_L_law_136 (by decide) ?_
  refine jr_iadd d_L_law_137 ?_
  rw [a1]
  refine jr_sld d_L_law_138 (sin (by omega) hL) ?_
  rw [n1, h.sc]
  refine jv_V1rA d_L_law_139 l_L_18 k_J_local ⟨Nat.le_of_ble_eq_true rfl, Nat.le_of_ble_eq_true rfl⟩ rfl rfl (Nat.le_of_ble_eq_true rfl) hC hl1 (by rw [hZ.2.1]; omega) (by rw [hZ.2.2]; omega) ?_
  refine jr_aload_n d_L_law_142 rfl rfl ?_
  refine jr_aload_n d_L_law_143 rfl rfl ?_
  refine jr_iload_n d_L_law_144 rfl rfl ?_
  refine jr_iconst (v := 1) d_L_law_145 (by decide) ?_
  refine jr_iadd d_L_law_146 ?_
  rw [a1]
  refine jr_sld d_L_law_147 (sin (by omega) hL) ?_
  rw [n1, hX1]
  refine jv_V1rA d_L_law_148 l_L_22 k_m_local ⟨Nat.le_of_ble_eq_true rfl, Nat.le_of_ble_eq_true rfl⟩ rfl rfl (Nat.le_of_ble_eq_true rfl) hR hl2 (by rw [hZ.2.1]; omega) (by rw [hZ.2.2]; omega) ?_
  refine jr_icmp_eq (tgt := 467) d_L_law_151 (by decide) (fun _ => ?_) (fun c9 => absurd rfl c9)
  exact hZR
theorem law_add {X : jc_I} {Y : jc_O} {L : jc_L → Prop} {xs : Nat → Int32} {Ln N nc ns c i : Nat} (h : LI X Y L xs Ln N nc ns c) (hi : i + 5 ≤ Ln) (hL : Ln ≤ 2560) (hc : c + 1 ≤ 512) (hnx : ∀ (X2 : jc_I) (Y2 : jc_O) (L2 : jc_L → Prop) (N2 nc2 ns2 : Nat), LI X2 Y2 L2 xs Ln N2 nc2 ns2 (c + 1) → ∃ Z, gZ Z ∧ jc_R y_L_law 467 [some (.inr (some (96, Ln, 0))), some (.inr (some (0, 0, 0))), some (.inr (some (10, 0, 0))), some (.inl (Int32.ofNat i))] [] X2 Y2 L2 nc2 ns2 Z) : ∃ Z, gZ Z ∧ jc_R y_L_law 156 [some (.inr (some (96, Ln, 0))), some (.inr (some (0, 0, 0))), some (.inr (some (10, 0, 0))), some (.inl (Int32.ofNat i))] [] X Y L nc ns Z := by
  obtain ⟨v, X1, Y1, L1, mc, ms, X2, Y2, L2, mc', ms', N', hC, hl1, hR, hl2, g2, b1, b2, s1, s2⟩ : ST y_J_add y_m_add [.inl (xs (i + 1)), .inl (xs (i + 2))] X Y L (10000 * (c : Int)) N := st_add h.gs
  have a1 : Int32.ofNat i + 1 = Int32.ofNat (i + 1) := ofadd (j := 1) (by omega)
  have a2 : Int32.ofNat i + 2 = Int32.ofNat (i + 2) := ofadd (j := 2) (by omega)
  have a3 : Int32.ofNat i + 3 = Int32.ofNat (i + 3) := ofadd (j := 3) (by omega)
  have a4 : Int32.ofNat i + 4 = Int32.ofNat (i + 4) := ofadd (j := 4) (by omega)
  have n1 := jofN (n := i + 1) (by omega)
  have n2 := jofN (n := i + 2) (by omega)
  have n3 := jofN (n := i + 3) (by omega)
  have n4 := jofN (n := i + 4) (by omega)
  have e1 := h.b1
  have e2 := h.b2
  have li : LI X2 Y2 L2 xs Ln N' (nc + mc + mc') (ns + ms + ms') (c + 1) := ⟨g2.mono (by omega), fun j => (s2 Ln j).trans (h.sc j), by omega, by omega⟩
  have hX1 : ∀ j, X1 (96, Ln, 0) j = xs j := fun j => (s1 Ln j).trans (h.sc j)
  obtain ⟨Z, hZ, hZR⟩ := hnx X2 Y2 L2 N' _ _ li
  have bd := li.bd hc
  refine ⟨Z, hZ, ?_⟩
  refine jr_aload_n d_L_law_156 rfl rfl ?_
  refine jr_aload_n d_L_law_157 rfl rfl ?_
  refine jr_iload_n d_L_law_158 rfl rfl ?_
  refine jr_iconst (v := 1) d_L_law_159 (by decide) ?_
  refine jr_iadd d_L_law_160 ?_
  rw [a1]
  refine jr_sld d_L_law_161 (sin (by omega) hL) ?_
  rw [n1, h.sc]
  refine jr_aload_n d_L_law_162 rfl rfl ?_
  refine jr_iload_n d_L_law_163 rfl rfl ?_
  refine jr_iconst (v := 2) d_L_law_164 (by decide) ?_
  refine jr_iadd d_L_law_165 ?_
  rw [a2]
  refine jr_sld d_L_law_166 (sin (by omega) hL) ?_
  rw [n2, h.sc]
  refine jv_V2rA d_L_law_167 l_L_23 k_J_add ⟨Nat.le_of_ble_eq_true rfl, Nat.le_of_ble_eq_true rfl⟩ rfl rfl (Nat.le_of_ble_eq_true rfl) hC hl1 (by rw [hZ.2.1]; omega) (by rw [hZ.2.2]; omega) ?_
  refine jr_aload_n d_L_law_170 rfl rfl ?_
  refine jr_aload_n d_L_law_171 rfl rfl ?_
  refine jr_iload_n d_L_law_172 rfl rfl ?_
  refine jr_iconst (v := 1) d_L_law_173 (by decide) ?_
  refine jr_iadd d_L_law_174 ?_
  rw [a1]
  refine jr_sld d_L_law_175 (sin (by omega) hL) ?_
  rw [n1, hX1]
  refine jr_aload_n d_L_law_176 rfl rfl ?_
  refine jr_iload_n d_L_law_177 rfl rfl ?_
  refine jr_iconst (v := 2) d_L_law_178 (by decide) ?_
  refine jr_iadd d_L_law_179 ?_
  rw [a2]
  refine jr_sld d_L_law_180 (sin (by omega) hL) ?_
  rw [n2, hX1]
  refine jv_V2rA d_L_law_181 l_L_26 k_m_add ⟨Nat.le_of_ble_eq_true rfl, Nat.le_of_ble_eq_true rfl⟩ rfl rfl (Nat.le_of_ble_eq_true rfl) hR hl2 (by rw [hZ.2.1]; omega) (by rw [hZ.2.2]; omega) ?_
  refine jr_icmp_eq (tgt := 467) d_L_law_184 (by decide) (fun _ => ?_) (fun c9 => absurd rfl c9)
  exact hZR
theorem law_row {X : jc_I} {Y : jc_O} {L : jc_L → Prop} {xs : Nat → Int32} {Ln N nc ns c i : Nat} (h : LI X Y L xs Ln N nc ns c) (hi : i + 5 ≤ Ln) (hL : Ln ≤ 2560) (hc : c + 1 ≤ 512) (hnx : ∀ (X2 : jc_I) (Y2 : jc_O) (L2 : jc_L → Prop) (N2 nc2 ns2 : Nat), LI X2 Y2 L2 xs Ln N2 nc2 ns2 (c + 1) → ∃ Z, gZ Z ∧ jc_R y_L_law 467 [some (.inr (some (96, Ln, 0))), some (.inr (some (0, 0, 0))), some (.inr (some (10, 0, 0))), some (.inl (Int32.ofNat i))] [] X2 Y2 L2 nc2 ns2 Z) : ∃ Z, gZ Z ∧ jc_R y_L_law 189 [some (.inr (some (96, Ln, 0))), some (.inr (some (0, 0, 0))), some (.inr (some (10, 0, 0))), some (.inl (Int32.ofNat i))] [] X Y L nc ns Z := by
  obtain ⟨v, X1, Y1, L1, mc, ms, X2, Y2, L2, mc', ms', N', hC, hl1, hR, hl2, g2, b1, b2, s1, s2⟩ : ST y_J_row y_m_row [.inl (xs (i + 1)), .inl (xs (i + 2)), .inl (xs (i + 3)), .inl (xs (i + 4))] X Y L (10000 * (c : Int)) N := st_row h.gs
  have a1 : Int32.ofNat i + 1 = Int32.ofNat (i + 1) := ofadd (j := 1) (by omega)
  have a2 : Int32.ofNat i + 2 = Int32.ofNat (i + 2) := ofadd (j := 2) (by omega)
  have a3 : Int32.ofNat i + 3 = Int32.ofNat (i + 3) := ofadd (j := 3) (by omega)
  have a4 : Int32.ofNat i + 4 = Int32.ofNat (i + 4) := ofadd (j := 4) (by omega)
  have n1 := jofN (n := i + 1) (by omega)
  have n2 := jofN (n := i + 2) (by omega)
  have n3 := jofN (n := i + 3) (by omega)
  have n4 := jofN (n := i + 4) (by omega)
  have e1 := h.b1
  have e2 := h.b2
  have li : LI X2 Y2 L2 xs Ln N' (nc + mc + mc') (ns + ms + ms') (c + 1) := ⟨g2.mono (by omega), fun j => (s2 Ln j).trans (h.sc j), by omega, by omega⟩
  have hX1 : ∀ j, X1 (96, Ln, 0) j = xs j := fun j => (s1 Ln j).trans (h.sc j)
  obtain ⟨Z, hZ, hZR⟩ := hnx X2 Y2 L2 N' _ _ li
  have bd := li.bd hc
  refine ⟨Z, hZ, ?_⟩
  refine jr_aload_n d_L_law_189 rfl rfl ?_
  refine jr_aload_n d_L_law_190 rfl rfl ?_
  refine jr_iload_n d_L_law_191 rfl rfl ?_
  refine jr_iconst (v := 1) d_L_law_192 (by decide) ?_
  refine jr_iadd d_L_law_193 ?_
  rw [a1]
  refine jr_sld d_L_law_194 (sin (by omega) hL) ?_
  rw [n1, h.sc]
  refine jr_aload_n d_L_law_195 rfl rfl ?_
  refine jr_iload_n d_L_law_196 rfl rfl ?_
  refine jr_iconst (v := 2) d_L_law_197 (by decide) ?_
  refine jr_iadd d_L_law_198 ?_
  rw [a2]
  refine jr_sld d_L_law_199 (sin (by omega) hL) ?_
  rw [n2, h.sc]
  refine jr_aload_n d_L_law_200 rfl rfl ?_
  refine jr_iload_n d_L_law_201 rfl rfl ?_
  refine jr_iconst (v := 3) d_L_law_202 (by decide) ?_
  refine jr_iadd d_L_law_203 ?_
  rw [a3]
  refine jr_sld d_L_law_204 (sin (by omega) hL) ?_
  rw [n3, h.sc]
  refine jr_aload_n d_L_law_205 rfl rfl ?_
  refine jr_iload_n d_L_law_206 rfl rfl ?_
  refine jr_iconst (v := 4) d_L_law_207 (by decide) ?_
  refine jr_iadd d_L_law_208 ?_
  rw [a4]
  refine jr_sld d_L_law_209 (sin (by omega) hL) ?_
  rw [n4, h.sc]
  refine jv_V4rA d_L_law_210 l_L_27 k_J_row ⟨Nat.le_of_ble_eq_true rfl, Nat.le_of_ble_eq_true rfl⟩ rfl rfl (Nat.le_of_ble_eq_true rfl) hC hl1 (by rw [hZ.2.1]; omega) (by rw [hZ.2.2]; omega) ?_
  refine jr_aload_n d_L_law_213 rfl rfl ?_
  refine jr_aload_n d_L_law_214 rfl rfl ?_
  refine jr_iload_n d_L_law_215 rfl rfl ?_
  refine jr_iconst (v := 1) d_L_law_216 (by decide) ?_
  refine jr_iadd d_L_law_217 ?_
  rw [a1]
  refine jr_sld d_L_law_218 (sin (by omega) hL) ?_
  rw [n1, hX1]
  refine jr_aload_n d_L_law_219 rfl rfl ?_
  refine jr_iload_n d_L_law_220 rfl rfl ?_
  refine jr_iconst (v := 2) d_L_law_221 (by decide) ?_
  refine jr_iadd d_L_law_222 ?_
  rw [a2]
  refine jr_sld d_L_law_223 (sin (by omega) hL) ?_
  rw [n2, hX1]
  refine jr_aload_n d_L_law_224 rfl rfl ?_
  refine jr_iload_n d_L_law_225 rfl rfl ?_
  refine jr_iconst (v := 3) d_L_law_226 (by decide) ?_
  refine jr_iadd d_L_law_227 ?_
  rw [a3]
  refine jr_sld d_L_law_228 (sin (by omega) hL) ?_
  rw [n3, hX1]
  refine jr_aload_n d_L_law_229 rfl rfl ?_
  refine jr_iload_n d_L_law_230 rfl rfl ?_
  refine jr_iconst (v := 4) d_L_law_231 (by decide) ?_
  refine jr_iadd d_L_law_232 ?_
  rw [a4]
  refine jr_sld d_L_law_233 (sin (by omega) hL) ?_
  rw [n4, hX1]
  refine jv_V4rA d_L_law_234 l_L_31 k_m_row ⟨Nat.le_of_ble_eq_true rfl, Nat.le_of_ble_eq_true rfl⟩ rfl rfl (Nat.le_of_ble_eq_true rfl) hR hl2 (by rw [hZ.2.1]; omega) (by rw [hZ.2.2]; omega) ?_
  refine jr_icmp_eq (tgt := 467) d_L_law_237 (by decide) (fun _ => ?_) (fun c9 => absurd rfl c9)
  exact hZR
theorem law_judge {X : jc_I} {Y : jc_O} {L : jc_L → Prop} {xs : Nat → Int32} {Ln N nc ns c i : Nat} (h : LI X Y L xs Ln N nc ns c) (hi : i + 5 ≤ Ln) (hL : Ln ≤ 2560) (hc : c + 1 ≤ 512) (hnx : ∀ (X2 : jc_I) (Y2 : jc_O) (L2 : jc_L → Prop) (N2 nc2 ns2 : Nat), LI X2 Y2 L2 xs Ln N2 nc2 ns2 (c + 1) → ∃ Z, gZ Z ∧ jc_R y_L_law 467 [some (.inr (some (96, Ln, 0))), some (.inr (some (0, 0, 0))), some (.inr (some (10, 0, 0))), some (.inl (Int32.ofNat i))] [] X2 Y2 L2 nc2 ns2 Z) : ∃ Z, gZ Z ∧ jc_R y_L_law 242 [some (.inr (some (96, Ln, 0))), some (.inr (some (0, 0, 0))), some (.inr (some (10, 0, 0))), some (.inl (Int32.ofNat i))] [] X Y L nc ns Z := by
  obtain ⟨v, X1, Y1, L1, mc, ms, X2, Y2, L2, mc', ms', N', hC, hl1, hR, hl2, g2, b1, b2, s1, s2⟩ : ST y_J_judge y_m_judge [.inl (xs (i + 1))] X Y L (10000 * (c : Int)) N := st_judge h.gs
  have a1 : Int32.ofNat i + 1 = Int32.ofNat (i + 1) := ofadd (j := 1) (by omega)
  have a2 : Int32.ofNat i + 2 = Int32.ofNat (i + 2) := ofadd (j := 2) (by omega)
  have a3 : Int32.ofNat i + 3 = Int32.ofNat (i + 3) := ofadd (j := 3) (by omega)
  have a4 : Int32.ofNat i + 4 = Int32.ofNat (i + 4) := ofadd (j := 4) (by omega)
  have n1 := jofN (n := i + 1) (by omega)
  have n2 := jofN (n := i + 2) (by omega)
  have n3 := jofN (n := i + 3) (by omega)
  have n4 := jofN (n := i + 4) (by omega)
  have e1 := h.b1
  have e2 := h.b2
  have li : LI X2 Y2 L2 xs Ln N' (nc + mc + mc') (ns + ms + ms') (c + 1) := ⟨g2.mono (by omega), fun j => (s2 Ln j).trans (h.sc j), by omega, by omega⟩
  have hX1 : ∀ j, X1 (96, Ln, 0) j = xs j := fun j => (s1 Ln j).trans (h.sc j)
  obtain ⟨Z, hZ, hZR⟩ := hnx X2 Y2 L2 N' _ _ li
  have bd := li.bd hc
  refine ⟨Z, hZ, ?_⟩
  refine jr_aload_n d_L_law_242 rfl rfl ?_
  refine jr_aload_n d_L_law_243 rfl rfl ?_
  refine jr_iload_n d_L_law_244 rfl rfl ?_
  refine jr_iconst (v := 1) d_L_law_245 (by decide) ?_
  refine jr_iadd d_L_law_246 ?_
  rw [a1]
  refine jr_sld d_L_law_247 (sin (by omega) hL) ?_
  rw [n1, h.sc]
  refine jv_V1rA d_L_law_248 l_L_32 k_J_judge ⟨Nat.le_of_ble_eq_true rfl, Nat.le_of_ble_eq_true rfl⟩ rfl rfl (Nat.le_of_ble_eq_true rfl) hC hl1 (by rw [hZ.2.1]; omega) (by rw [hZ.2.2]; omega) ?_
  refine jr_aload_n d_L_law_251 rfl rfl ?_
  refine jr_aload_n d_L_law_252 rfl rfl ?_
  refine jr_iload_n d_L_law_253 rfl rfl ?_
  refine jr_iconst (v := 1) d_L_law_254 (by decide) ?_
  refine jr_iadd d_L_law_255 ?_
  rw [a1]
  refine jr_sld d_L_law_256 (sin (by omega) hL) ?_
  rw [n1, hX1]
  refine jv_V1rA d_L_law_257 l_L_35 k_m_judge ⟨Nat.le_of_ble_eq_true rfl, Nat.le_of_ble_eq_true rfl⟩ rfl rfl (Nat.le_of_ble_eq_true rfl) hR hl2 (by rw [hZ.2.1]; omega) (by rw [hZ.2.2]; omega) ?_
  refine jr_icmp_eq (tgt := 467) d_L_law_260 (by decide) (fun _ => ?_) (fun c9 => absurd rfl c9)
  exact hZR
theorem law_thread {X : jc_I} {Y : jc_O} {L : jc_L → Prop} {xs : Nat → Int32} {Ln N nc ns c i : Nat} (h : LI X Y L xs Ln N nc ns c) (hi : i + 5 ≤ Ln) (hL : Ln ≤ 2560) (hc : c + 1 ≤ 512) (hnx : ∀ (X2 : jc_I) (Y2 : jc_O) (L2 : jc_L → Prop) (N2 nc2 ns2 : Nat), LI X2 Y2 L2 xs Ln N2 nc2 ns2 (c + 1) → ∃ Z, gZ Z ∧ jc_R y_L_law 467 [some (.inr (some (96, Ln, 0))), some (.inr (some (0, 0, 0))), some (.inr (some (10, 0, 0))), some (.inl (Int32.ofNat i))] [] X2 Y2 L2 nc2 ns2 Z) : ∃ Z, gZ Z ∧ jc_R y_L_law 265 [some (.inr (some (96, Ln, 0))), some (.inr (some (0, 0, 0))), some (.inr (some (10, 0, 0))), some (.inl (Int32.ofNat i))] [] X Y L nc ns Z := by
  obtain ⟨v, X1, Y1, L1, mc, ms, X2, Y2, L2, mc', ms', N', hC, hl1, hR, hl2, g2, b1, b2, s1, s2⟩ : ST y_J_thread y_m_thread [.inl (xs (i + 1))] X Y L (10000 * (c : Int)) N := st_thread h.gs
  have a1 : Int32.ofNat i + 1 = Int32.ofNat (i + 1) := ofadd (j := 1) (by omega)
  have a2 : Int32.ofNat i + 2 = Int32.ofNat (i + 2) := ofadd (j := 2) (by omega)
  have a3 : Int32.ofNat i + 3 = Int32.ofNat (i + 3) := ofadd (j := 3) (by omega)
  have a4 : Int32.ofNat i + 4 = Int32.ofNat (i + 4) := ofadd (j := 4) (by omega)
  have n1 := jofN (n := i + 1) (by omega)
  have n2 := jofN (n := i + 2) (by omega)
  have n3 := jofN (n := i + 3) (by omega)
  have n4 := jofN (n := i + 4) (by omega)
  have e1 := h.b1
  have e2 := h.b2
  have li : LI X2 Y2 L2 xs Ln N' (nc + mc + mc') (ns + ms + ms') (c + 1) := ⟨g2.mono (by omega), fun j => (s2 Ln j).trans (h.sc j), by omega, by omega⟩
  have hX1 : ∀ j, X1 (96, Ln, 0) j = xs j := fun j => (s1 Ln j).trans (h.sc j)
  obtain ⟨Z, hZ, hZR⟩ := hnx X2 Y2 L2 N' _ _ li
  have bd := li.bd hc
  refine ⟨Z, hZ, ?_⟩
  refine jr_aload_n d_L_law_265 rfl rfl ?_
  refine jr_aload_n d_L_law_266 rfl rfl ?_
  refine jr_iload_n d_L_law_267 rfl rfl ?_
  refine jr_iconst (v := 1) d_L_law_268 (by decide) ?_
  refine jr_iadd d_L_law_269 ?_
  rw [a1]
  refine jr_sld d_L_law_270 (sin (by omega) hL) ?_
  rw [n1, h.sc]
  refine jv_V1rA d_L_law_271 l_L_36 k_J_thread ⟨Nat.le_of_ble_eq_true rfl, Nat.le_of_ble_eq_true rfl⟩ rfl rfl (Nat.le_of_ble_eq_true rfl) hC hl1 (by rw [hZ.2.1]; omega) (by rw [hZ.2.2]; omega) ?_
  refine jr_aload_n d_L_law_274 rfl rfl ?_
  refine jr_aload_n d_L_law_275 rfl rfl ?_
  refine jr_iload_n d_L_law_276 rfl rfl ?_
  refine jr_iconst (v := 1) d_L_law_277 (by decide) ?_
  refine jr_iadd d_L_law_278 ?_
  rw [a1]
  refine jr_sld d_L_law_279 (sin (by omega) hL) ?_
  rw [n1, hX1]
  refine jv_V1rA d_L_law_280 l_L_39 k_m_thread ⟨Nat.le_of_ble_eq_true rfl, Nat.le_of_ble_eq_true rfl⟩ rfl rfl (Nat.le_of_ble_eq_true rfl) hR hl2 (by rw [hZ.2.1]; omega) (by rw [hZ.2.2]; omega) ?_
  refine jr_icmp_eq (tgt := 467) d_L_law_283 (by decide) (fun _ => ?_) (fun c9 => absurd rfl c9)
  exact hZR
theorem law_run {X : jc_I} {Y : jc_O} {L : jc_L → Prop} {xs : Nat → Int32} {Ln N nc ns c i : Nat} (h : LI X Y L xs Ln N nc ns c) (hi : i + 5 ≤ Ln) (hL : Ln ≤ 2560) (hc : c + 1 ≤ 512) (hnx : ∀ (X2 : jc_I) (Y2 : jc_O) (L2 : jc_L → Prop) (N2 nc2 ns2 : Nat), LI X2 Y2 L2 xs Ln N2 nc2 ns2 (c + 1) → ∃ Z, gZ Z ∧ jc_R y_L_law 467 [some (.inr (some (96, Ln, 0))), some (.inr (some (0, 0, 0))), some (.inr (some (10, 0, 0))), some (.inl (Int32.ofNat i))] [] X2 Y2 L2 nc2 ns2 Z) : ∃ Z, gZ Z ∧ jc_R y_L_law 288 [some (.inr (some (96, Ln, 0))), some (.inr (some (0, 0, 0))), some (.inr (some (10, 0, 0))), some (.inl (Int32.ofNat i))] [] X Y L nc ns Z := by
  obtain ⟨v, X1, Y1, L1, mc, ms, X2, Y2, L2, mc', ms', N', hC, hl1, hR, hl2, g2, b1, b2, s1, s2⟩ : ST y_J_run y_m_run [.inl (xs (i + 1)), .inl (xs (i + 2))] X Y L (10000 * (c : Int)) N := st_run h.gs (by omega)
  have a1 : Int32.ofNat i + 1 = Int32.ofNat (i + 1) := ofadd (j := 1) (by omega)
  have a2 : Int32.ofNat i + 2 = Int32.ofNat (i + 2) := ofadd (j := 2) (by omega)
  have a3 : Int32.ofNat i + 3 = Int32.ofNat (i + 3) := ofadd (j := 3) (by omega)
  have a4 : Int32.ofNat i + 4 = Int32.ofNat (i + 4) := ofadd (j := 4) (by omega)
  have n1 := jofN (n := i + 1) (by omega)
  have n2 := jofN (n := i + 2) (by omega)
  have n3 := jofN (n := i + 3) (by omega)
  have n4 := jofN (n := i + 4) (by omega)
  have e1 := h.b1
  have e2 := h.b2
  have li : LI X2 Y2 L2 xs Ln N' (nc + mc + mc') (ns + ms + ms') (c + 1) := ⟨g2.mono (by omega), fun j => (s2 Ln j).trans (h.sc j), by omega, by omega⟩
  have hX1 : ∀ j, X1 (96, Ln, 0) j = xs j := fun j => (s1 Ln j).trans (h.sc j)
  obtain ⟨Z, hZ, hZR⟩ := hnx X2 Y2 L2 N' _ _ li
  have bd := li.bd hc
  refine ⟨Z, hZ, ?_⟩
  refine jr_aload_n d_L_law_288 rfl rfl ?_
  refine jr_aload_n d_L_law_289 rfl rfl ?_
  refine jr_iload_n d_L_law_290 rfl rfl ?_
  refine jr_iconst (v := 1) d_L_law_291 (by decide) ?_
  refine jr_iadd d_L_law_292 ?_
  rw [a1]
  refine jr_sld d_L_law_293 (sin (by omega) hL) ?_
  rw [n1, h.sc]
  refine jr_aload_n d_L_law_294 rfl rfl ?_
  refine jr_iload_n d_L_law_295 rfl rfl ?_
  refine jr_iconst (v := 2) d_L_law_296 (by decide) ?_
  refine jr_iadd d_L_law_297 ?_
  rw [a2]
  refine jr_sld d_L_law_298 (sin (by omega) hL) ?_
  rw [n2, h.sc]
  refine jv_V2rA d_L_law_299 l_L_40 k_J_run ⟨Nat.le_of_ble_eq_true rfl, Nat.le_of_ble_eq_true rfl⟩ rfl rfl (Nat.le_of_ble_eq_true rfl) hC hl1 (by rw [hZ.2.1]; omega) (by rw [hZ.2.2]; omega) ?_
  refine jr_aload_n d_L_law_302 rfl rfl ?_
  refine jr_aload_n d_L_law_303 rfl rfl ?_
  refine jr_iload_n d_L_law_304 rfl rfl ?_
  refine jr_iconst (v := 1) d_L_law_305 (by decide) ?_
  refine jr_iadd d_L_law_306 ?_
  rw [a1]
  refine jr_sld d_L_law_307 (sin (by omega) hL) ?_
  rw [n1, hX1]
  refine jr_aload_n d_L_law_308 rfl rfl ?_
  refine jr_iload_n d_L_law_309 rfl rfl ?_
  refine jr_iconst (v := 2) d_L_law_310 (by decide) ?_
  refine jr_iadd d_L_law_311 ?_
  rw [a2]
  refine jr_sld d_L_law_312 (sin (by omega) hL) ?_
  rw [n2, hX1]
  refine jv_V2rA d_L_law_313 l_L_43 k_m_run ⟨Nat.le_of_ble_eq_true rfl, Nat.le_of_ble_eq_true rfl⟩ rfl rfl (Nat.le_of_ble_eq_true rfl) hR hl2 (by rw [hZ.2.1]; omega) (by rw [hZ.2.2]; omega) ?_
  refine jr_icmp_eq (tgt := 467) d_L_law_316 (by decide) (fun _ => ?_) (fun c9 => absurd rfl c9)
  exact hZR
theorem law_told {X : jc_I} {Y : jc_O} {L : jc_L → Prop} {xs : Nat → Int32} {Ln N nc ns c i : Nat} (h : LI X Y L xs Ln N nc ns c) (hi : i + 5 ≤ Ln) (hL : Ln ≤ 2560) (hc : c + 1 ≤ 512) (hnx : ∀ (X2 : jc_I) (Y2 : jc_O) (L2 : jc_L → Prop) (N2 nc2 ns2 : Nat), LI X2 Y2 L2 xs Ln N2 nc2 ns2 (c + 1) → ∃ Z, gZ Z ∧ jc_R y_L_law 467 [some (.inr (some (96, Ln, 0))), some (.inr (some (0, 0, 0))), some (.inr (some (10, 0, 0))), some (.inl (Int32.ofNat i))] [] X2 Y2 L2 nc2 ns2 Z) : ∃ Z, gZ Z ∧ jc_R y_L_law 321 [some (.inr (some (96, Ln, 0))), some (.inr (some (0, 0, 0))), some (.inr (some (10, 0, 0))), some (.inl (Int32.ofNat i))] [] X Y L nc ns Z := by
  obtain ⟨v, X1, Y1, L1, mc, ms, X2, Y2, L2, mc', ms', N', hC, hl1, hR, hl2, g2, b1, b2, s1, s2⟩ : ST y_J_told y_m_told [.inl (xs (i + 1)), .inl (xs (i + 2))] X Y L (10000 * (c : Int)) N := st_told h.gs
  have a1 : Int32.ofNat i + 1 = Int32.ofNat (i + 1) := ofadd (j := 1) (by omega)
  have a2 : Int32.ofNat i + 2 = Int32.ofNat (i + 2) := ofadd (j := 2) (by omega)
  have a3 : Int32.ofNat i + 3 = Int32.ofNat (i + 3) := ofadd (j := 3) (by omega)
  have a4 : Int32.ofNat i + 4 = Int32.ofNat (i + 4) := ofadd (j := 4) (by omega)
  have n1 := jofN (n := i + 1) (by omega)
  have n2 := jofN (n := i + 2) (by omega)
  have n3 := jofN (n := i + 3) (by omega)
  have n4 := jofN (n := i + 4) (by omega)
  have e1 := h.b1
  have e2 := h.b2
  have li : LI X2 Y2 L2 xs Ln N' (nc + mc + mc') (ns + ms + ms') (c + 1) := ⟨g2.mono (by omega), fun j => (s2 Ln j).trans (h.sc j), by omega, by omega⟩
  have hX1 : ∀ j, X1 (96, Ln, 0) j = xs j := fun j => (s1 Ln j).trans (h.sc j)
  obtain ⟨Z, hZ, hZR⟩ := hnx X2 Y2 L2 N' _ _ li
  have bd := li.bd hc
  refine ⟨Z, hZ, ?_⟩
  refine jr_aload_n d_L_law_321 rfl rfl ?_
  refine jr_aload_n d_L_law_322 rfl rfl ?_
  refine jr_iload_n d_L_law_323 rfl rfl ?_
  refine jr_iconst (v := 1) d_L_law_324 (by decide) ?_
  refine jr_iadd d_L_law_325 ?_
  rw [a1]
  refine jr_sld d_L_law_326 (sin (by omega) hL) ?_
  rw [n1, h.sc]
  refine jr_aload_n d_L_law_327 rfl rfl ?_
  refine jr_iload_n d_L_law_328 rfl rfl ?_
  refine jr_iconst (v := 2) d_L_law_329 (by decide) ?_
  refine jr_iadd d_L_law_330 ?_
  rw [a2]
  refine jr_sld d_L_law_331 (sin (by omega) hL) ?_
  rw [n2, h.sc]
  refine jv_V2rA d_L_law_332 l_L_44 k_J_told ⟨Nat.le_of_ble_eq_true rfl, Nat.le_of_ble_eq_true rfl⟩ rfl rfl (Nat.le_of_ble_eq_true rfl) hC hl1 (by rw [hZ.2.1]; omega) (by rw [hZ.2.2]; omega) ?_
  refine jr_aload_n d_L_law_335 rfl rfl ?_
  refine jr_aload_n d_L_law_336 rfl rfl ?_
  refine jr_iload_n d_L_law_337 rfl rfl ?_
  refine jr_iconst (v := 1) d_L_law_338 (by decide) ?_
  refine jr_iadd d_L_law_339 ?_
  rw [a1]
  refine jr_sld d_L_law_340 (sin (by omega) hL) ?_
  rw [n1, hX1]
  refine jr_aload_n d_L_law_341 rfl rfl ?_
  refine jr_iload_n d_L_law_342 rfl rfl ?_
  refine jr_iconst (v := 2) d_L_law_343 (by decide) ?_
  refine jr_iadd d_L_law_344 ?_
  rw [a2]
  refine jr_sld d_L_law_345 (sin (by omega) hL) ?_
  rw [n2, hX1]
  refine jv_V2rA d_L_law_346 l_L_47 k_m_told ⟨Nat.le_of_ble_eq_true rfl, Nat.le_of_ble_eq_true rfl⟩ rfl rfl (Nat.le_of_ble_eq_true rfl) hR hl2 (by rw [hZ.2.1]; omega) (by rw [hZ.2.2]; omega) ?_
  refine jr_icmp_eq (tgt := 467) d_L_law_349 (by decide) (fun _ => ?_) (fun c9 => absurd rfl c9)
  exact hZR
theorem law_object {X : jc_I} {Y : jc_O} {L : jc_L → Prop} {xs : Nat → Int32} {Ln N nc ns c i : Nat} (h : LI X Y L xs Ln N nc ns c) (hi : i + 5 ≤ Ln) (hL : Ln ≤ 2560) (hc : c + 1 ≤ 512) (hnx : ∀ (X2 : jc_I) (Y2 : jc_O) (L2 : jc_L → Prop) (N2 nc2 ns2 : Nat), LI X2 Y2 L2 xs Ln N2 nc2 ns2 (c + 1) → ∃ Z, gZ Z ∧ jc_R y_L_law 467 [some (.inr (some (96, Ln, 0))), some (.inr (some (0, 0, 0))), some (.inr (some (10, 0, 0))), some (.inl (Int32.ofNat i))] [] X2 Y2 L2 nc2 ns2 Z) : ∃ Z, gZ Z ∧ jc_R y_L_law 354 [some (.inr (some (96, Ln, 0))), some (.inr (some (0, 0, 0))), some (.inr (some (10, 0, 0))), some (.inl (Int32.ofNat i))] [] X Y L nc ns Z := by
  obtain ⟨v, X1, Y1, L1, mc, ms, X2, Y2, L2, mc', ms', N', hC, hl1, hR, hl2, g2, b1, b2, s1, s2⟩ : ST y_J_object y_m_object [.inl (xs (i + 1)), .inl (xs (i + 2))] X Y L (10000 * (c : Int)) N := st_object h.gs
  have a1 : Int32.ofNat i + 1 = Int32.ofNat (i + 1) := ofadd (j := 1) (by omega)
  have a2 : Int32.ofNat i + 2 = Int32.ofNat (i + 2) := ofadd (j := 2) (by omega)
  have a3 : Int32.ofNat i + 3 = Int32.ofNat (i + 3) := ofadd (j := 3) (by omega)
  have a4 : Int32.ofNat i + 4 = Int32.ofNat (i + 4) := ofadd (j := 4) (by omega)
  have n1 := jofN (n := i + 1) (by omega)
  have n2 := jofN (n := i + 2) (by omega)
  have n3 := jofN (n := i + 3) (by omega)
  have n4 := jofN (n := i + 4) (by omega)
  have e1 := h.b1
  have e2 := h.b2
  have li : LI X2 Y2 L2 xs Ln N' (nc + mc + mc') (ns + ms + ms') (c + 1) := ⟨g2.mono (by omega), fun j => (s2 Ln j).trans (h.sc j), by omega, by omega⟩
  have hX1 : ∀ j, X1 (96, Ln, 0) j = xs j := fun j => (s1 Ln j).trans (h.sc j)
  obtain ⟨Z, hZ, hZR⟩ := hnx X2 Y2 L2 N' _ _ li
  have bd := li.bd hc
  refine ⟨Z, hZ, ?_⟩
  refine jr_aload_n d_L_law_354 rfl rfl ?_
  refine jr_aload_n d_L_law_355 rfl rfl ?_
  refine jr_iload_n d_L_law_356 rfl rfl ?_
  refine jr_iconst (v := 1) d_L_law_357 (by decide) ?_
  refine jr_iadd d_L_law_358 ?_
  rw [a1]
  refine jr_sld d_L_law_359 (sin (by omega) hL) ?_
  rw [n1, h.sc]
  refine jr_aload_n d_L_law_360 rfl rfl ?_
  refine jr_iload_n d_L_law_361 rfl rfl ?_
  refine jr_iconst (v := 2) d_L_law_362 (by decide) ?_
  refine jr_iadd d_L_law_363 ?_
  rw [a2]
  refine jr_sld d_L_law_364 (sin (by omega) hL) ?_
  rw [n2, h.sc]
  refine jv_V2rA d_L_law_365 l_L_48 k_J_object ⟨Nat.le_of_ble_eq_true rfl, Nat.le_of_ble_eq_true rfl⟩ rfl rfl (Nat.le_of_ble_eq_true rfl) hC hl1 (by rw [hZ.2.1]; omega) (by rw [hZ.2.2]; omega) ?_
  refine jr_aload_n d_L_law_368 rfl rfl ?_
  refine jr_aload_n d_L_law_369 rfl rfl ?_
  refine jr_iload_n d_L_law_370 rfl rfl ?_
  refine jr_iconst (v := 1) d_L_law_371 (by decide) ?_
  refine jr_iadd d_L_law_372 ?_
  rw [a1]
  refine jr_sld d_L_law_373 (sin (by omega) hL) ?_
  rw [n1, hX1]
  refine jr_aload_n d_L_law_374 rfl rfl ?_
  refine jr_iload_n d_L_law_375 rfl rfl ?_
  refine jr_iconst (v := 2) d_L_law_376 (by decide) ?_
  refine jr_iadd d_L_law_377 ?_
  rw [a2]
  refine jr_sld d_L_law_378 (sin (by omega) hL) ?_
  rw [n2, hX1]
  refine jv_V2rA d_L_law_379 l_L_51 k_m_object ⟨Nat.le_of_ble_eq_true rfl, Nat.le_of_ble_eq_true rfl⟩ rfl rfl (Nat.le_of_ble_eq_true rfl) hR hl2 (by rw [hZ.2.1]; omega) (by rw [hZ.2.2]; omega) ?_
  refine jr_icmp_eq (tgt := 467) d_L_law_382 (by decide) (fun _ => ?_) (fun c9 => absurd rfl c9)
  exact hZR
theorem law_value {X : jc_I} {Y : jc_O} {L : jc_L → Prop} {xs : Nat → Int32} {Ln N nc ns c i : Nat} (h : LI X Y L xs Ln N nc ns c) (hi : i + 5 ≤ Ln) (hL : Ln ≤ 2560) (hc : c + 1 ≤ 512) (hnx : ∀ (X2 : jc_I) (Y2 : jc_O) (L2 : jc_L → Prop) (N2 nc2 ns2 : Nat), LI X2 Y2 L2 xs Ln N2 nc2 ns2 (c + 1) → ∃ Z, gZ Z ∧ jc_R y_L_law 467 [some (.inr (some (96, Ln, 0))), some (.inr (some (0, 0, 0))), some (.inr (some (10, 0, 0))), some (.inl (Int32.ofNat i))] [] X2 Y2 L2 nc2 ns2 Z) : ∃ Z, gZ Z ∧ jc_R y_L_law 387 [some (.inr (some (96, Ln, 0))), some (.inr (some (0, 0, 0))), some (.inr (some (10, 0, 0))), some (.inl (Int32.ofNat i))] [] X Y L nc ns Z := by
  obtain ⟨v, X1, Y1, L1, mc, ms, X2, Y2, L2, mc', ms', N', hC, hl1, hR, hl2, g2, b1, b2, s1, s2⟩ : ST y_J_value y_m_value [.inl (xs (i + 1)), .inl (xs (i + 2))] X Y L (10000 * (c : Int)) N := st_value h.gs
  have a1 : Int32.ofNat i + 1 = Int32.ofNat (i + 1) := ofadd (j := 1) (by omega)
  have a2 : Int32.ofNat i + 2 = Int32.ofNat (i + 2) := ofadd (j := 2) (by omega)
  have a3 : Int32.ofNat i + 3 = Int32.ofNat (i + 3) := ofadd (j := 3) (by omega)
  have a4 : Int32.ofNat i + 4 = Int32.ofNat (i + 4) := ofadd (j := 4) (by omega)
  have n1 := jofN (n := i + 1) (by omega)
  have n2 := jofN (n := i + 2) (by omega)
  have n3 := jofN (n := i + 3) (by omega)
  have n4 := jofN (n := i + 4) (by omega)
  have e1 := h.b1
  have e2 := h.b2
  have li : LI X2 Y2 L2 xs Ln N' (nc + mc + mc') (ns + ms + ms') (c + 1) := ⟨g2.mono (by omega), fun j => (s2 Ln j).trans (h.sc j), by omega, by omega⟩
  have hX1 : ∀ j, X1 (96, Ln, 0) j = xs j := fun j => (s1 Ln j).trans (h.sc j)
  obtain ⟨Z, hZ, hZR⟩ := hnx X2 Y2 L2 N' _ _ li
  have bd := li.bd hc
  refine ⟨Z, hZ, ?_⟩
  refine jr_aload_n d_L_law_387 rfl rfl ?_
  refine jr_aload_n d_L_law_388 rfl rfl ?_
  refine jr_iload_n d_L_law_389 rfl rfl ?_
  refine jr_iconst (v := 1) d_L_law_390 (by decide) ?_
  refine jr_iadd d_L_law_391 ?_
  rw [a1]
  refine jr_sld d_L_law_392 (sin (by omega) hL) ?_
  rw [n1, h.sc]
  refine jr_aload_n d_L_law_393 rfl rfl ?_
  refine jr_iload_n d_L_law_394 rfl rfl ?_
  refine jr_iconst (v := 2) d_L_law_395 (by decide) ?_
  refine jr_iadd d_L_law_396 ?_
  rw [a2]
  refine jr_sld d_L_law_397 (sin (by omega) hL) ?_
  rw [n2, h.sc]
  refine jv_V2rA d_L_law_398 l_L_52 k_J_value ⟨Nat.le_of_ble_eq_true rfl, Nat.le_of_ble_eq_true rfl⟩ rfl rfl (Nat.le_of_ble_eq_true rfl) hC hl1 (by rw [hZ.2.1]; omega) (by rw [hZ.2.2]; omega) ?_
  refine jr_aload_n d_L_law_401 rfl rfl ?_
  refine jr_aload_n d_L_law_402 rfl rfl ?_
  refine jr_iload_n d_L_law_403 rfl rfl ?_
  refine jr_iconst (v := 1) d_L_law_404 (by decide) ?_
  refine jr_iadd d_L_law_405 ?_
  rw [a1]
  refine jr_sld d_L_law_406 (sin (by omega) hL) ?_
  rw [n1, hX1]
  refine jr_aload_n d_L_law_407 rfl rfl ?_
  refine jr_iload_n d_L_law_408 rfl rfl ?_
  refine jr_iconst (v := 2) d_L_law_409 (by decide) ?_
  refine jr_iadd d_L_law_410 ?_
  rw [a2]
  refine jr_sld d_L_law_411 (sin (by omega) hL) ?_
  rw [n2, hX1]
  refine jv_V2rA d_L_law_412 l_L_55 k_m_value ⟨Nat.le_of_ble_eq_true rfl, Nat.le_of_ble_eq_true rfl⟩ rfl rfl (Nat.le_of_ble_eq_true rfl) hR hl2 (by rw [hZ.2.1]; omega) (by rw [hZ.2.2]; omega) ?_
  refine jr_icmp_eq (tgt := 467) d_L_law_415 (by decide) (fun _ => ?_) (fun c9 => absurd rfl c9)
  exact hZR
theorem law_global {X : jc_I} {Y : jc_O} {L : jc_L → Prop} {xs : Nat → Int32} {Ln N nc ns c i : Nat} (h : LI X Y L xs Ln N nc ns c) (hi : i + 5 ≤ Ln) (hL : Ln ≤ 2560) (hc : c + 1 ≤ 512) (hnx : ∀ (X2 : jc_I) (Y2 : jc_O) (L2 : jc_L → Prop) (N2 nc2 ns2 : Nat), LI X2 Y2 L2 xs Ln N2 nc2 ns2 (c + 1) → ∃ Z, gZ Z ∧ jc_R y_L_law 467 [some (.inr (some (96, Ln, 0))), some (.inr (some (0, 0, 0))), some (.inr (some (10, 0, 0))), some (.inl (Int32.ofNat i))] [] X2 Y2 L2 nc2 ns2 Z) : ∃ Z, gZ Z ∧ jc_R y_L_law 420 [some (.inr (some (96, Ln, 0))), some (.inr (some (0, 0, 0))), some (.inr (some (10, 0, 0))), some (.inl (Int32.ofNat i))] [] X Y L nc ns Z := by
  obtain ⟨v, X1, Y1, L1, mc, ms, X2, Y2, L2, mc', ms', N', hC, hl1, hR, hl2, g2, b1, b2, s1, s2⟩ : ST y_J_global y_m_global [.inl (xs (i + 1))] X Y L (10000 * (c : Int)) N := st_global h.gs
  have a1 : Int32.ofNat i + 1 = Int32.ofNat (i + 1) := ofadd (j := 1) (by omega)
  have a2 : Int32.ofNat i + 2 = Int32.ofNat (i + 2) := ofadd (j := 2) (by omega)
  have a3 : Int32.ofNat i + 3 = Int32.ofNat (i + 3) := ofadd (j := 3) (by omega)
  have a4 : Int32.ofNat i + 4 = Int32.ofNat (i + 4) := ofadd (j := 4) (by omega)
  have n1 := jofN (n := i + 1) (by omega)
  have n2 := jofN (n := i + 2) (by omega)
  have n3 := jofN (n := i + 3) (by omega)
  have n4 := jofN (n := i + 4) (by omega)
  have e1 := h.b1
  have e2 := h.b2
  have li : LI X2 Y2 L2 xs Ln N' (nc + mc + mc') (ns + ms + ms') (c + 1) := ⟨g2.mono (by omega), fun j => (s2 Ln j).trans (h.sc j), by omega, by omega⟩
  have hX1 : ∀ j, X1 (96, Ln, 0) j = xs j := fun j => (s1 Ln j).trans (h.sc j)
  obtain ⟨Z, hZ, hZR⟩ := hnx X2 Y2 L2 N' _ _ li
  have bd := li.bd hc
  refine ⟨Z, hZ, ?_⟩
  refine jr_aload_n d_L_law_420 rfl rfl ?_
  refine jr_aload_n d_L_law_421 rfl rfl ?_
  refine jr_iload_n d_L_law_422 rfl rfl ?_
  refine jr_iconst (v := 1) d_L_law_423 (by decide) ?_
  refine jr_iadd d_L_law_424 ?_
  rw [a1]
  refine jr_sld d_L_law_425 (sin (by omega) hL) ?_
  rw [n1, h.sc]
  refine jv_V1rA d_L_law_426 l_L_56 k_J_global ⟨Nat.le_of_ble_eq_true rfl, Nat.le_of_ble_eq_true rfl⟩ rfl rfl (Nat.le_of_ble_eq_true rfl) hC hl1 (by rw [hZ.2.1]; omega) (by rw [hZ.2.2]; omega) ?_
  refine jr_aload_n d_L_law_429 rfl rfl ?_
  refine jr_aload_n d_L_law_430 rfl rfl ?_
  refine jr_iload_n d_L_law_431 rfl rfl ?_
  refine jr_iconst (v := 1) d_L_law_432 (by decide) ?_
  refine jr_iadd d_L_law_433 ?_
  rw [a1]
  refine jr_sld d_L_law_434 (sin (by omega) hL) ?_
  rw [n1, hX1]
  refine jv_V1rA d_L_law_435 l_L_59 k_m_global ⟨Nat.le_of_ble_eq_true rfl, Nat.le_of_ble_eq_true rfl⟩ rfl rfl (Nat.le_of_ble_eq_true rfl) hR hl2 (by rw [hZ.2.1]; omega) (by rw [hZ.2.2]; omega) ?_
  refine jr_icmp_eq (tgt := 467) d_L_law_438 (by decide) (fun _ => ?_) (fun c9 => absurd rfl c9)
  exact hZR
theorem law_stuck {X : jc_I} {Y : jc_O} {L : jc_L → Prop} {xs : Nat → Int32} {Ln N nc ns c i : Nat} (h : LI X Y L xs Ln N nc ns c) (hi : i + 5 ≤ Ln) (hL : Ln ≤ 2560) (hc : c + 1 ≤ 512) (hnx : ∀ (X2 : jc_I) (Y2 : jc_O) (L2 : jc_L → Prop) (N2 nc2 ns2 : Nat), LI X2 Y2 L2 xs Ln N2 nc2 ns2 (c + 1) → ∃ Z, gZ Z ∧ jc_R y_L_law 467 [some (.inr (some (96, Ln, 0))), some (.inr (some (0, 0, 0))), some (.inr (some (10, 0, 0))), some (.inl (Int32.ofNat i))] [] X2 Y2 L2 nc2 ns2 Z) : ∃ Z, gZ Z ∧ jc_R y_L_law 443 [some (.inr (some (96, Ln, 0))), some (.inr (some (0, 0, 0))), some (.inr (some (10, 0, 0))), some (.inl (Int32.ofNat i))] [] X Y L nc ns Z := by
  obtain ⟨v, X1, Y1, L1, mc, ms, X2, Y2, L2, mc', ms', N', hC, hl1, hR, hl2, g2, b1, b2, s1, s2⟩ : ST y_J_stuck y_m_stuck [] X Y L (10000 * (c : Int)) N := st_stuck h.gs
  have a1 : Int32.ofNat i + 1 = Int32.ofNat (i + 1) := ofadd (j := 1) (by omega)
  have a2 : Int32.ofNat i + 2 = Int32.ofNat (i + 2) := ofadd (j := 2) (by omega)
  have a3 : Int32.ofNat i + 3 = Int32.ofNat (i + 3) := ofadd (j := 3) (by omega)
  have a4 : Int32.ofNat i + 4 = Int32.ofNat (i + 4) := ofadd (j := 4) (by omega)
  have n1 := jofN (n := i + 1) (by omega)
  have n2 := jofN (n := i + 2) (by omega)
  have n3 := jofN (n := i + 3) (by omega)
  have n4 := jofN (n := i + 4) (by omega)
  have e1 := h.b1
  have e2 := h.b2
  have li : LI X2 Y2 L2 xs Ln N' (nc + mc + mc') (ns + ms + ms') (c + 1) := ⟨g2.mono (by omega), fun j => (s2 Ln j).trans (h.sc j), by omega, by omega⟩
  have hX1 : ∀ j, X1 (96, Ln, 0) j = xs j := fun j => (s1 Ln j).trans (h.sc j)
  obtain ⟨Z, hZ, hZR⟩ := hnx X2 Y2 L2 N' _ _ li
  have bd := li.bd hc
  refine ⟨Z, hZ, ?_⟩
  refine jr_aload_n d_L_law_443 rfl rfl ?_
  refine jv_V0rA d_L_law_444 l_L_60 k_J_stuck ⟨Nat.le_of_ble_eq_true rfl, Nat.le_of_ble_eq_true rfl⟩ rfl rfl (Nat.le_of_ble_eq_true rfl) hC hl1 (by rw [hZ.2.1]; omega) (by rw [hZ.2.2]; omega) ?_
  refine jr_aload_n d_L_law_447 rfl rfl ?_
  refine jv_V0rA d_L_law_448 l_L_64 k_m_stuck ⟨Nat.le_of_ble_eq_true rfl, Nat.le_of_ble_eq_true rfl⟩ rfl rfl (Nat.le_of_ble_eq_true rfl) hR hl2 (by rw [hZ.2.1]; omega) (by rw [hZ.2.2]; omega) ?_
  refine jr_icmp_eq (tgt := 467) d_L_law_451 (by decide) (fun _ => ?_) (fun c9 => absurd rfl c9)
  exact hZR
theorem law_reset {X : jc_I} {Y : jc_O} {L : jc_L → Prop} {xs : Nat → Int32} {Ln N nc ns c i : Nat} (h : LI X Y L xs Ln N nc ns c) (hi : i + 5 ≤ Ln) (hL : Ln ≤ 2560) (hc : c + 1 ≤ 512) (hnx : ∀ (X2 : jc_I) (Y2 : jc_O) (L2 : jc_L → Prop) (N2 nc2 ns2 : Nat), LI X2 Y2 L2 xs Ln N2 nc2 ns2 (c + 1) → ∃ Z, gZ Z ∧ jc_R y_L_law 467 [some (.inr (some (96, Ln, 0))), some (.inr (some (0, 0, 0))), some (.inr (some (10, 0, 0))), some (.inl (Int32.ofNat i))] [] X2 Y2 L2 nc2 ns2 Z) : ∃ Z, gZ Z ∧ jc_R y_L_law 456 [some (.inr (some (96, Ln, 0))), some (.inr (some (0, 0, 0))), some (.inr (some (10, 0, 0))), some (.inl (Int32.ofNat i))] [] X Y L nc ns Z := by
  obtain ⟨X1, Y1, X2, Y2, hC, hR, g2, hcap, s1, s2⟩ := sr_reset h.gs
  have e1 := h.b1
  have e2 := h.b2
  have li : LI X2 Y2 L xs Ln N nc ns (c + 1) := ⟨g2.mono (by omega), fun j => (s2 Ln j).trans (h.sc j), by rw [hcap]; omega, by rw [hcap]; omega⟩
  obtain ⟨Z, hZ, hZR⟩ := hnx X2 Y2 L N _ _ li
  have bd := li.bd hc
  refine ⟨Z, hZ, ?_⟩
  refine jr_aload_n d_L_law_456 rfl rfl ?_
  refine jv_V0v d_L_law_457 l_L_65 k_J_reset ⟨Nat.le_of_ble_eq_true rfl, Nat.le_of_ble_eq_true rfl⟩ rfl rfl (Nat.le_of_ble_eq_true rfl) hC (by rw [hZ.2.1]; omega) (by rw [hZ.2.2]; omega) ?_
  refine jr_aload_n d_L_law_460 rfl rfl ?_
  refine jv_V0v d_L_law_461 l_L_68 k_m_reset ⟨Nat.le_of_ble_eq_true rfl, Nat.le_of_ble_eq_true rfl⟩ rfl rfl (Nat.le_of_ble_eq_true rfl) hR (by rw [hZ.2.1]; omega) (by rw [hZ.2.2]; omega) ?_
  refine jr_goto (tgt := 467) d_L_law_464 (by decide) ?_
  exact hZR
theorem law_loop {xs : Nat → Int32} {Ln : Nat} (hL : Ln ≤ 2560) : ∀ (m c : Nat) (X : jc_I) (Y : jc_O) (L : jc_L → Prop) (N nc ns : Nat), LI X Y L xs Ln N nc ns c → 5 * c + 5 * m ≤ Ln → Ln < 5 * c + 5 * m + 5 → ∃ Z, gZ Z ∧ jc_R y_L_law 18 [some (.inr (some (96, Ln, 0))), some (.inr (some (0, 0, 0))), some (.inr (some (10, 0, 0))), some (.inl (Int32.ofNat (5 * c)))] [] X Y L nc ns Z := by
  intro m
  induction m with
  | zero =>
    intro c X Y L N nc ns h h1 h2
    have bd := h.bd (by omega)
    exact ⟨_, ⟨rfl, rfl, rfl⟩, law_end (by omega) (by omega) hL bd.1 bd.2⟩
  | succ m ih =>
    intro c X Y L N nc ns h h1 h2
    have hi : 5 * c + 5 ≤ Ln := by omega
    have nx : ∀ (X2 : jc_I) (Y2 : jc_O) (L2 : jc_L → Prop) (N2 nc2 ns2 : Nat), LI X2 Y2 L2 xs Ln N2 nc2 ns2 (c + 1) → ∃ Z, gZ Z ∧ jc_R y_L_law 467 [some (.inr (some (96, Ln, 0))), some (.inr (some (0, 0, 0))), some (.inr (some (10, 0, 0))), some (.inl (Int32.ofNat (5 * c)))] [] X2 Y2 L2 nc2 ns2 Z := fun X2 Y2 L2 N2 nc2 ns2 h9 => by
      obtain ⟨Z, hZ, hR⟩ := ih (c + 1) X2 Y2 L2 N2 nc2 ns2 h9 (by omega) (by omega)
      exact ⟨Z, hZ, law_next hi hL (by rw [show 5 * c + 5 = 5 * (c + 1) from by omega]; exact hR)⟩
    have hdef : (xs (5 * c) &&& 15 < 0 ∨ 12 < xs (5 * c) &&& 15) → ∃ Z, gZ Z ∧ jc_R y_L_law 18 [some (.inr (some (96, Ln, 0))), some (.inr (some (0, 0, 0))), some (.inr (some (10, 0, 0))), some (.inl (Int32.ofNat (5 * c)))] [] X Y L nc ns Z := fun hw => by
      have e1 := h.b1
      have e2 := h.b2
      obtain ⟨Z, hZ, hR⟩ := nx X Y L N nc ns ⟨h.gs.mono (by omega), h.sc, by omega, by omega⟩
      refine ⟨Z, hZ, law_head hi hL h.sc (jr_tableOut (tgt := 467) d_L_law_32 ?_ (by decide) hR)⟩
      rcases hw with w | w
      · exact Or.inl (by have := jlt.mp w; rw [j0I] at this; exact this)
      · exact Or.inr (by have := jlt.mp w; rw [show (12 : Int32).toInt = 12 from by decide] at this; exact this)
    rcases j_0_12 (xs (5 * c) &&& 15) with hw | hw | hw
    · exact hdef (Or.inl hw)
    · exact hdef (Or.inr hw)
    · rcases hw with hw | hw | hw | hw | hw | hw | hw | hw | hw | hw | hw | hw | hw
      · obtain ⟨Z, hZ, hR⟩ := law_code h hi hL (by omega) nx
        exact ⟨Z, hZ, law_head hi hL h.sc (by rw [hw]; exact jr_tableIn (tgt := 100) d_L_law_32 (by decide) (by decide) rfl (by decide) hR)⟩
      · obtain ⟨Z, hZ, hR⟩ := law_local h hi hL (by omega) nx
        exact ⟨Z, hZ, law_head hi hL h.sc (by rw [hw]; exact jr_tableIn (tgt := 133) d_L_law_32 (by decide) (by decide) rfl (by decide) hR)⟩
      · obtain ⟨Z, hZ, hR⟩ := law_add h hi hL (by omega) nx
        exact ⟨Z, hZ, law_head hi hL h.sc (by rw [hw]; exact jr_tableIn (tgt := 156) d_L_law_32 (by decide) (by decide) rfl (by decide) hR)⟩
      · obtain ⟨Z, hZ, hR⟩ := law_row h hi hL (by omega) nx
        exact ⟨Z, hZ, law_head hi hL h.sc (by rw [hw]; exact jr_tableIn (tgt := 189) d_L_law_32 (by decide) (by decide) rfl (by decide) hR)⟩
      · obtain ⟨Z, hZ, hR⟩ := law_judge h hi hL (by omega) nx
        exact ⟨Z, hZ, law_head hi hL h.sc (by rw [hw]; exact jr_tableIn (tgt := 242) d_L_law_32 (by decide) (by decide) rfl (by decide) hR)⟩
      · obtain ⟨Z, hZ, hR⟩ := law_thread h hi hL (by omega) nx
        exact ⟨Z, hZ, law_head hi hL h.sc (by rw [hw]; exact jr_tableIn (tgt := 265) d_L_law_32 (by decide) (by decide) rfl (by decide) hR)⟩
      · obtain ⟨Z, hZ, hR⟩ := law_run h hi hL (by omega) nx
        exact ⟨Z, hZ, law_head hi hL h.sc (by rw [hw]; exact jr_tableIn (tgt := 288) d_L_law_32 (by decide) (by decide) rfl (by decide) hR)⟩
      · obtain ⟨Z, hZ, hR⟩ := law_told h hi hL (by omega) nx
        exact ⟨Z, hZ, law_head hi hL h.sc (by rw [hw]; exact jr_tableIn (tgt := 321) d_L_law_32 (by decide) (by decide) rfl (by decide) hR)⟩
      · obtain ⟨Z, hZ, hR⟩ := law_object h hi hL (by omega) nx
        exact ⟨Z, hZ, law_head hi hL h.sc (by rw [hw]; exact jr_tableIn (tgt := 354) d_L_law_32 (by decide) (by decide) rfl (by decide) hR)⟩
      · obtain ⟨Z, hZ, hR⟩ := law_value h hi hL (by omega) nx
        exact ⟨Z, hZ, law_head hi hL h.sc (by rw [hw]; exact jr_tableIn (tgt := 387) d_L_law_32 (by decide) (by decide) rfl (by decide) hR)⟩
      · obtain ⟨Z, hZ, hR⟩ := law_global h hi hL (by omega) nx
        exact ⟨Z, hZ, law_head hi hL h.sc (by rw [hw]; exact jr_tableIn (tgt := 420) d_L_law_32 (by decide) (by decide) rfl (by decide) hR)⟩
      · obtain ⟨Z, hZ, hR⟩ := law_stuck h hi hL (by omega) nx
        exact ⟨Z, hZ, law_head hi hL h.sc (by rw [hw]; exact jr_tableIn (tgt := 443) d_L_law_32 (by decide) (by decide) rfl (by decide) hR)⟩
      · obtain ⟨Z, hZ, hR⟩ := law_reset h hi hL (by omega) nx
        exact ⟨Z, hZ, law_head hi hL h.sc (by rw [hw]; exact jr_tableIn (tgt := 456) d_L_law_32 (by decide) (by decide) rfl (by decide) hR)⟩
