section JDK2
variable {y : jc_Y} {pc : Nat} {ls : List (Option jc_V)} {st : List jc_V} {I : jc_I} {O : jc_O} {live : jc_L → Prop} {nc ns : Nat} {Z : jc_Z}
/-- the first n references of one array into another -/
def jc_cp (O : jc_O) (q0 q1 : jc_L) (n : Nat) : jc_O := fun q k => if q = q1 ∧ k < n then O q0 k else O q k
theorem jr_copy {idx n0 n1 : Nat} {q0 q1 : jc_L} {n : Int32} (hd : decode y.2.1 pc = .ok (.invokestatic idx, 3)) (hlk : Cond.methodLink y.1.cls idx arraycopyName ∈ lw_tbl) (hnat : Cond.native arraycopyName ∈ lw_tbl) (hstat : Cond.static arraycopyName ∈ lw_tbl) (hini : Cond.initialized "java/lang/System" ∈ lw_tbl)
    (hc0 : jc_cel q0 = .inr (7, n0)) (hc1 : jc_cel q1 = .inr (7, n1)) (hq0 : Nat.blt q0.1 96 = true) (hq1 : Nat.blt q1.1 96 = true) (h3 : ¬ n < 0) (h4 : n.toNatClampNeg ≤ n0) (h5 : n.toNatClampNeg ≤ n1) (hel : ∀ i, i < n.toNatClampNeg → jc_sto "java/lang/Object" (O q0 i))
    (hf : 1 ≤ y.2.2.2.2.1) (hlo : st.length + (nativeFrameWords "java/lang/System" "arraycopy" 5 + 11) ≤ y.2.2.2.2.2) (h : jc_R y (pc + 3) ls st I (jc_cp O q0 q1 n.toNatClampNeg) live nc ns Z) : jc_R y pc ls (.inl n :: .inl 0 :: .inr (some q1) :: .inl 0 :: .inr (some q0) :: st) I O live nc ns Z := by
  intro s0 G p l e R s m args below meth c H locs α la Q hC hcc hss hR hS hk hkl hl hn K
  obtain ⟨hBs, hW, hx, hb, hml, hown, hnm, g1, g2, -⟩ := id hC
  have b0 : q0.1 < 96 := Nat.le_of_ble_eq_true hq0
  have b1 : q1.1 < 96 := Nat.le_of_ble_eq_true hq1
  have hk1 := jc_oks_tl (jc_oks_tl hk)
  have lv1 : live q1 := jc_oks_hd hk1 q1 rfl
  have hk2 := jc_oks_tl (jc_oks_tl hk1)
  have lv0 : live q0 := jc_oks_hd hk2 q0 rfl
  have hk3 := jc_oks_tl hk2
  have hty : jc_tys[7]? = some (.object "java/lang/Object") := rfl
  have hat0 := (jc_atA hc0 hty).mp (hR.1 q0 lv0 (by omega)).1
  have hat1 := (jc_atA hc1 hty).mp (hR.1 q1 lv1 (by omega)).1
  have hA1 := (hR.1 q1 lv1 (by omega)).2 b1
  have ev : ∀ q : jc_L, jc_av (.object "java/lang/Object") I O α q = fun j => va_rf ((O q j).map α) := fun q => by funext j; simp [jc_av, jc_isA, jc_rz]
  rw [ev] at hat0 hat1
  obtain ⟨-, k0, hk0, cm0, hkk0⟩ := (jc_KE hBs hW hty).1 n0 (fun j => va_rf ((O q0 j).map α))
  obtain ⟨-, kd, hkd, cm1, hkkd⟩ := (jc_KE hBs hW hty).1 n1 (fun j => va_rf ((O q1 j).map α))
  have n00 : (0 : Int32).toNatClampNeg = 0 := by decide
  have nn : n.toInt = (n.toNatClampNeg : Int) := by
    have hz0 : (0 : Int) ≤ n.toInt := by
      have := Int32.not_lt.mp h3
      simpa using Int32.le_iff_toInt_le.mp this
    show n.toInt = ((n.toInt.toNat : Nat) : Int)
    omega
  intro T hT X
  obtain ⟨vm', X', step⟩ := X.arraycopy hx hown (jc_w hBs hW hlk rfl) (jc_w hBs hW hnat rfl) (jc_w hBs hW hstat rfl) (jc_w hBs hW hini rfl) (src := α q0) (dst := α q1) (cs := arrV (G.2.1 7) n0 (fun j => va_rf ((O q0 j).map α))) (cd := arrV (G.2.1 7) n1 (fun j => va_rf ((O q1 j).map α))) (srcPos := 0) (destPos := 0) (n := n) (by rw [hT]; exact hat0) (by rw [hT]; exact hat1)
    (fun _ h => by cases h) (fun _ h => by cases h) (fun h => by cases h) (fun h => by cases h) hk0 hkd hkk0 hkkd rfl (by decide) (by decide) h3
    (by rw [arrV_size, nn, show (0 : Int32).toInt = 0 from by decide]; omega)
    (by rw [arrV_size, nn, show (0 : Int32).toInt = 0 from by decide]; omega)
    (fun vm₁ hal i hi => by
      have e : (arrV (G.2.1 7) n0 (fun j => va_rf ((O q0 j).map α))).slots.getD ((0 : Int32).toNatClampNeg + i) .null = va_rf ((O q0 i).map α) := by
        rw [n00, Nat.zero_add, Array.getD_eq_getD_getElem?, arrV_read _ _ (by omega)]
        rfl
      rw [e]
      cases hy : O q0 i with
      | none => exact ⟨rfl, trivial⟩
      | some q2 =>
        have lv2 : live q2 := hR.2.2.1 q0 i q2 lv0 hy
        obtain ⟨ci, r, hci, hcl, hcast⟩ := hel i hi q2 hy
        have htg := jc_tag hci
        have hat2 := (hR.1 q2 lv2 (by omega)).1
        unfold jc_at at hat2
        rw [hci] at hat2
        obtain ⟨r', hr', cellV, c1, c2, c3, -⟩ := hat2
        obtain ⟨kA, comp, r1, r2, r3, -⟩ := (jc_KE hBs hW hty).2
        cases hkd.symm.trans r1
        cases hkkd.symm.trans r2
        obtain ⟨kE, hkE, -⟩ := Vm.findClass_spec r3
        have hcls := ((jc_K hBs hW).1 ci r hcl).2
        obtain ⟨kC, hkC, -⟩ := hcls.2
        have hass : s.vm.assignable (G.1.1 ci) cm1 = true := by
          rcases hcast with e1 | h9
          · have hcomp : cm1 = G.1.1 ci := by rw [← e1] at r3; exact Option.some.inj (r3.symm.trans hcls.1)
            rw [hcomp]
            exact va_assign hcls
          · obtain ⟨c0, t1, f1, f2, f3⟩ := Cond.castable_spec (va_Nw.use (A := args) rfl (jc_wC hBs hW h9))
            cases hcls.1.symm.trans f1
            cases r3.symm.trans f2
            exact f3
        obtain ⟨kC', hkC', -⟩ := hal.2.2 _ _ hkC
        obtain ⟨kE', hkE', -⟩ := hal.2.2 _ _ hkE
        refine ⟨rfl, cellV, (show T.heap[α q2]? = some cellV by rw [hT]; exact c1), (fun q h => by rw [c3] at h; cases h), ⟨kC', by rw [c2]; exact hkC'⟩, ?_, ?_⟩
        · exact ⟨kE', hkE'⟩
        · show vm₁.assignable _ _ = true
          rw [hal.assignable, c2]
          exact hass)
    (g := F0 m pc la (((.inl n :: .inl 0 :: .inr (some q1) :: .inl 0 :: .inr (some q0) :: st : List jc_V)).map (jc_rz α))) rfl (by show la.size = c.maxLocals; rw [hml]; exact hl.1) (rest := st.map (jc_rz α)) rfl (by rw [hb]; exact hd) (Nat.le_trans hf g1) (by show 2 * 0 + _ + _ ≤ _; rw [jc_sum]; omega)
  have e1 : copied (arrV (G.2.1 7) n0 (fun j => va_rf ((O q0 j).map α))) (arrV (G.2.1 7) n1 (fun j => va_rf ((O q1 j).map α))) 0 0 n = arrV (G.2.1 7) n1 (fun j => va_rf ((jc_cp O q0 q1 n.toNatClampNeg q1 j).map α)) := by
    have := va_copied (fun z : Option Nat => va_rf z) (G.2.1 7) (G.2.1 7) (n0 := n0) (n1 := n1) (sp := 0) (dp := 0) (n := n.toNatClampNeg) (fun j => (O q0 j).map α) (fun j => (O q1 j).map α) (by omega)
    refine Eq.trans this ?_
    congr 1
    funext j
    unfold va_cpy jc_cp
    by_cases hj : j < n.toNatClampNeg
    · rw [if_pos ⟨Nat.zero_le _, by omega⟩, if_pos ⟨rfl, hj⟩]; simp
    · rw [if_neg (by omega), if_neg (fun w => hj w.2)]
  rw [e1] at X' step
  have hlt : α q1 < H.size := (Array.getElem?_eq_some_iff.mp hat1).1
  generalize hcell : arrV (G.2.1 7) n1 (fun j => va_rf ((jc_cp O q0 q1 n.toNatClampNeg q1 j).map α)) = cell at X' step
  have hheap : ((T.setVm vm').setCell (α q1) cell).heap = H.setIfInBounds (α q1) cell := by rw [← hT]; rfl
  have oq : ∀ a : Nat, a ≠ α q1 → (H.setIfInBounds (α q1) cell)[a]? = H[a]? := fun a ha => by simp [Array.getElem?_setIfInBounds, Ne.symm ha]
  have e2 : (H.setIfInBounds (α q1) cell)[α q1]? = some cell := by simp [Array.getElem?_setIfInBounds, hlt]
  have hev2 : ∀ q : jc_L, jc_av (.object "java/lang/Object") I (jc_cp O q0 q1 n.toNatClampNeg) α q = fun j => va_rf ((jc_cp O q0 q1 n.toNatClampNeg q j).map α) := fun q => by funext j; simp [jc_av, jc_isA, jc_rz]
  have hR' : jc_Rep s0 G α I (jc_cp O q0 q1 n.toNatClampNeg) live (H.setIfInBounds (α q1) cell) := hR.put lv1 b1 ((jc_atA hc1 hty).mpr (by rw [hev2, e2, hcell])) (by simp) oq (fun _ _ _ => rfl) (fun q' k' hne => if_neg (fun w => hne w.1)) (fun k q' h9 => by
    unfold jc_cp at h9
    split at h9
    · exact hR.2.2.1 q0 k q' lv0 h9
    · exact hR.2.2.1 q1 k q' lv1 h9)
  obtain ⟨t, a1, b1'⟩ := h s0 G p l e R s m args below meth c _ (locs ++ ((arrV (G.2.1 7) n0 (fun j => va_rf ((O q0 j).map α))).stretch (0 : Int32).toNatClampNeg n.toNatClampNeg).zipIdx.map fun q => ⟨α q1, (0 : Int32).toNatClampNeg + q.2⟩) α la Q hC hcc hss hR' ⟨by simp; exact hS.1, fun q w1 w2 => by
      rw [oq q (fun e => w2 (by rw [e]; exact hA1))]
      exact hS.2.1 q w1 w2, fun q hq => by
      rcases List.mem_append.mp hq with w | w
      · exact hS.2.2 q w
      · obtain ⟨z, -, hz⟩ := List.mem_map.mp w
        rw [← hz]
        exact hA1⟩ hk3 hkl hl hn K _ hheap X'
  exact ⟨t, step t a1, b1'⟩
end JDK2
