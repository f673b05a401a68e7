section JCA
variable {y : jc_Y} {pc : Nat} {ls : List (Option jc_V)} {st : List jc_V} {I : jc_I} {O : jc_O} {live : jc_L → Prop} {nc ns : Nat} {Z : jc_Z}
theorem jc_atA {s0 : State} {G : jc_G} {α : jc_L → Nat} {q : jc_L} {ti n : Nat} {ty : FieldType} {H : Heap} (hc : jc_cel q = .inr (ti, n)) (ht : jc_tys[ti]? = some ty) : jc_at s0 G α I O q H ↔ H[α q]? = some (arrV (G.2.1 ti) n (jc_av ty I O α q)) := by
  have h90 : ti ≠ 90 := fun e => by subst e; cases ht
  have h91 : ti ≠ 91 := fun e => by subst e; cases ht
  unfold jc_at
  rw [hc]
  simp only [if_neg h90, if_neg h91, ht]
  constructor
  · rintro ⟨ty', h1, h2⟩
    cases h1
    exact h2
  · intro h
    exact ⟨ty, rfl, h⟩
theorem jc_in {i : Int32} {n : Nat} (h : vp_in i n) : i.toNatClampNeg < n := Nat.not_le.mp fun q => h (Or.inr q)
theorem jr_iald {ti n : Nat} {q : jc_L} {i : Int32} (hd : decode y.2.1 pc = .ok (.iaload, 1)) (hc : jc_cel q = .inr (ti, n)) (ht : jc_tys[ti]? = some .int) (hq0 : Nat.blt q.1 96 = true) (hin : vp_in i n) (h : jc_R y (pc + 1) ls (.inl (I q i.toNatClampNeg) :: st) I O live nc ns Z) : jc_R y pc ls (.inl i :: .inr (some q) :: st) I O live nc ns Z := by
  have hq : q.1 < 96 := Nat.le_of_ble_eq_true hq0
  intro s0 G p l e R s m args below meth c H locs α la Q hC hcc hss hR hS hk hkl hl hn K
  have hlv : live q := jc_oks_hd (jc_oks_tl hk) q rfl
  have hat := (jc_atA hc ht).mp (hR.1 q hlv (by omega)).1
  obtain ⟨hBs, hW, hx, hb, -⟩ := id hC
  refine W.iald (v := .int (I q i.toNatClampNeg)) hx hb hat ((jc_KE hBs hW ht).1 n _) (fun q => by cases q) (by rw [arrV_size]; exact hin) (by rw [arrV_read _ _ (jc_in hin)]; rfl) rfl rfl hd ?_
  exact h s0 G p l e R s m args below meth c H locs α la Q hC hcc hss hR hS (jc_oks_cons jc_ok_i (jc_oks_tl (jc_oks_tl hk))) hkl hl hn K
theorem jr_zald {ti n : Nat} {q : jc_L} {i : Int32} (hd : decode y.2.1 pc = .ok (.baload, 1)) (hc : jc_cel q = .inr (ti, n)) (ht : jc_tys[ti]? = some .boolean) (hq0 : Nat.blt q.1 96 = true) (hin : vp_in i n) (h : jc_R y (pc + 1) ls (.inl (I q i.toNatClampNeg) :: st) I O live nc ns Z) : jc_R y pc ls (.inl i :: .inr (some q) :: st) I O live nc ns Z := by
  have hq : q.1 < 96 := Nat.le_of_ble_eq_true hq0
  intro s0 G p l e R s m args below meth c H locs α la Q hC hcc hss hR hS hk hkl hl hn K
  have hlv : live q := jc_oks_hd (jc_oks_tl hk) q rfl
  have hat := (jc_atA hc ht).mp (hR.1 q hlv (by omega)).1
  obtain ⟨hBs, hW, hx, hb, -⟩ := id hC
  refine W.zald (v := .int (I q i.toNatClampNeg)) hx hb hat ((jc_KE hBs hW ht).1 n _) (fun q => by cases q) (by rw [arrV_size]; exact hin) (by rw [arrV_read _ _ (jc_in hin)]; rfl) rfl rfl hd ?_
  exact h s0 G p l e R s m args below meth c H locs α la Q hC hcc hss hR hS (jc_oks_cons jc_ok_i (jc_oks_tl (jc_oks_tl hk))) hkl hl hn K
theorem jr_aald {ti n : Nat} {C : String} {q : jc_L} {i : Int32} (hd : decode y.2.1 pc = .ok (.aaload, 1)) (hc : jc_cel q = .inr (ti, n)) (ht : jc_tys[ti]? = some (.object C)) (hq0 : Nat.blt q.1 96 = true) (hin : vp_in i n) (h : jc_R y (pc + 1) ls (.inr (O q i.toNatClampNeg) :: st) I O live nc ns Z) : jc_R y pc ls (.inl i :: .inr (some q) :: st) I O live nc ns Z := by
  have hq : q.1 < 96 := Nat.le_of_ble_eq_true hq0
  intro s0 G p l e R s m args below meth c H locs α la Q hC hcc hss hR hS hk hkl hl hn K
  have hlv : live q := jc_oks_hd (jc_oks_tl hk) q rfl
  have hat := (jc_atA hc ht).mp (hR.1 q hlv (by omega)).1
  obtain ⟨hBs, hW, hx, hb, -⟩ := id hC
  refine W.aald (v := va_rf ((O q i.toNatClampNeg).map α)) (ty := .object C) hx hb hat ((jc_KE hBs hW ht).1 n _) rfl (fun q => by cases q) (by rw [arrV_size]; exact hin) (by rw [arrV_read _ _ (jc_in hin)]; rfl) rfl rfl hd ?_
  exact h s0 G p l e R s m args below meth c H locs α la Q hC hcc hss hR hS (jc_oks_cons (fun q' hq' => hR.2.2.1 q _ q' hlv (by injection hq')) (jc_oks_tl (jc_oks_tl hk))) hkl hl hn K
theorem jr_alen {ti n : Nat} {ty : FieldType} {q : jc_L} (hd : decode y.2.1 pc = .ok (.arraylength, 1)) (hc : jc_cel q = .inr (ti, n)) (ht : jc_tys[ti]? = some ty) (hq0 : Nat.blt q.1 96 = true) (h : jc_R y (pc + 1) ls (.inl (Int32.ofNat n) :: st) I O live nc ns Z) : jc_R y pc ls (.inr (some q) :: st) I O live nc ns Z := by
  have hq : q.1 < 96 := Nat.le_of_ble_eq_true hq0
  intro s0 G p l e R s m args below meth c H locs α la Q hC hcc hss hR hS hk hkl hl hn K
  have hlv : live q := jc_oks_hd hk q rfl
  have hat := (jc_atA hc ht).mp (hR.1 q hlv (by omega)).1
  obtain ⟨hBs, hW, hx, hb, -⟩ := id hC
  refine W.alen (n := Int32.ofNat n) hx hb hat ((jc_KE hBs hW ht).1 n _) (by rw [arrV_size]) rfl rfl hd ?_
  exact h s0 G p l e R s m args below meth c H locs α la Q hC hcc hss hR hS (jc_oks_cons jc_ok_i (jc_oks_tl hk)) hkl hl hn K
/-- the length of the empty array -/
theorem jr_alen0 (hd : decode y.2.1 pc = .ok (.arraylength, 1)) (h : jc_R y (pc + 1) ls (.inl 0 :: st) I O live nc ns Z) : jc_R y pc ls (.inr (some (97, 0, 0)) :: st) I O live nc ns Z := by
  intro s0 G p l e R s m args below meth c H locs α la Q hC hcc hss hR hS hk hkl hl hn K
  have hlv : live (97, 0, 0) := jc_oks_hd hk _ rfl
  have hat := (hR.1 _ hlv (by decide)).1
  unfold jc_at at hat
  have hc : jc_cel (97, 0, 0) = .inr (91, 0) := by decide +kernel
  rw [hc] at hat
  obtain ⟨cell, h1, h2, h3⟩ := hat
  obtain ⟨hBs, hW, hx, hb, -⟩ := id hC
  refine W.alen (n := 0) hx hb h1 (State.isArrayOf_alike hW.alike h2) (by rw [h3]; rfl) rfl rfl hd ?_
  exact h s0 G p l e R s m args below meth c H locs α la Q hC hcc hss hR hS (jc_oks_cons jc_ok_i (jc_oks_tl hk)) hkl hl hn K
/-- the script -/
theorem jr_slen {L : Nat} (hd : decode y.2.1 pc = .ok (.arraylength, 1)) (h : jc_R y (pc + 1) ls (.inl (Int32.ofNat L) :: st) I O live nc ns Z) : jc_R y pc ls (.inr (some (96, L, 0)) :: st) I O live nc ns Z := by
  intro s0 G p l e R s m args below meth c H locs α la Q hC hcc hss hR hS hk hkl hl hn K
  have hlv : live (96, L, 0) := jc_oks_hd hk _ rfl
  have hat := (hR.1 _ hlv (show (96 : Nat) ≠ 98 by decide)).1
  unfold jc_at at hat
  have hc : jc_cel (96, L, 0) = .inr (90, L) := rfl
  rw [hc] at hat
  obtain ⟨cell, h1, h2, h3, h4, h5⟩ := hat
  obtain ⟨hBs, hW, hx, hb, -⟩ := id hC
  refine W.alen (n := Int32.ofNat L) hx hb h1 (State.isArrayOf_alike hW.alike h2) (by rw [h4]) rfl rfl hd ?_
  exact h s0 G p l e R s m args below meth c H locs α la Q hC hcc hss hR hS (jc_oks_cons jc_ok_i (jc_oks_tl hk)) hkl hl hn K
theorem jr_sld {L : Nat} {i : Int32} (hd : decode y.2.1 pc = .ok (.iaload, 1)) (hin : vp_in i L) (h : jc_R y (pc + 1) ls (.inl (I (96, L, 0) i.toNatClampNeg) :: st) I O live nc ns Z) : jc_R y pc ls (.inl i :: .inr (some (96, L, 0)) :: st) I O live nc ns Z := by
  intro s0 G p l e R s m args below meth c H locs α la Q hC hcc hss hR hS hk hkl hl hn K
  have hlv : live (96, L, 0) := jc_oks_hd (jc_oks_tl hk) _ rfl
  have hat := (hR.1 _ hlv (show (96 : Nat) ≠ 98 by decide)).1
  unfold jc_at at hat
  have hc : jc_cel (96, L, 0) = .inr (90, L) := rfl
  rw [hc] at hat
  obtain ⟨cell, h1, h2, h3, h4, h5⟩ := hat
  obtain ⟨hBs, hW, hx, hb, -⟩ := id hC
  refine W.iald (v := .int (I (96, L, 0) i.toNatClampNeg)) hx hb h1 (State.isArrayOf_alike hW.alike h2) h3 (by rw [h4]; exact hin) (h5 _ (jc_in hin)) rfl rfl hd ?_
  exact h s0 G p l e R s m args below meth c H locs α la Q hC hcc hss hR hS (jc_oks_cons jc_ok_i (jc_oks_tl (jc_oks_tl hk))) hkl hl hn K
theorem jr_iast {ti n : Nat} {q : jc_L} {i x : Int32} (hd : decode y.2.1 pc = .ok (.iastore, 1)) (hc : jc_cel q = .inr (ti, n)) (ht : jc_tys[ti]? = some .int) (hq0 : Nat.blt q.1 96 = true) (hin : vp_in i n) (h : jc_R y (pc + 1) ls st (jc_up I q i.toNatClampNeg x) O live nc ns Z) : jc_R y pc ls (.inl x :: .inl i :: .inr (some q) :: st) I O live nc ns Z := by
  have hq : q.1 < 96 := Nat.le_of_ble_eq_true hq0
  intro s0 G p l e R s m args below meth c H locs α la Q hC hcc hss hR hS hk hkl hl hn K
  have hlv : live q := jc_oks_hd (jc_oks_tl (jc_oks_tl hk)) q rfl
  obtain ⟨hat0, hBq⟩ := hR.1 q hlv (by omega)
  have hat := (jc_atA hc ht).mp hat0
  obtain ⟨hBs, hW, hx, hb, -⟩ := id hC
  refine W.iast hx hb hat ((jc_KE hBs hW ht).1 n _) (fun q => by cases q) (by rw [arrV_size]; exact hin) rfl rfl hd fun H1 e1 z oq => ?_
  refine h s0 G p l e R s m args below meth c H1 _ α la Q hC hcc hss (hR.put hlv hq ((jc_atA hc ht).mpr ?_) z oq (fun q' k' hne => by simp only [jc_up, if_neg (fun (w : q' = q ∧ k' = i.toNatClampNeg) => hne w.1)]) (fun _ _ _ => rfl) (fun k q' h9 => hR.2.2.1 q k q' hlv h9)) (hS.put z oq (hBq hq)) (jc_oks_tl (jc_oks_tl (jc_oks_tl hk))) hkl hl hn K
  rw [e1, arrV_store]
  congr 2
  funext j
  unfold updV jc_av jc_up
  by_cases ej : j = i.toNatClampNeg
  · simp [ej, jc_isA, jc_rz]
  · simp [ej]
theorem jr_zast {ti n : Nat} {q : jc_L} {i x : Int32} (hd : decode y.2.1 pc = .ok (.bastore, 1)) (hc : jc_cel q = .inr (ti, n)) (ht : jc_tys[ti]? = some .boolean) (hq0 : Nat.blt q.1 96 = true) (hx01 : x = 0 ∨ x = 1) (hin : vp_in i n) (h : jc_R y (pc + 1) ls st (jc_up I q i.toNatClampNeg x) O live nc ns Z) : jc_R y pc ls (.inl x :: .inl i :: .inr (some q) :: st) I O live nc ns Z := by
  have hq : q.1 < 96 := Nat.le_of_ble_eq_true hq0
  intro s0 G p l e R s m args below meth c H locs α la Q hC hcc hss hR hS hk hkl hl hn K
  have hlv : live q := jc_oks_hd (jc_oks_tl (jc_oks_tl hk)) q rfl
  obtain ⟨hat0, hBq⟩ := hR.1 q hlv (by omega)
  have hat := (jc_atA hc ht).mp hat0
  obtain ⟨hBs, hW, hx, hb, -⟩ := id hC
  refine W.zast hx hb hat ((jc_KE hBs hW ht).1 n _) (fun q => by cases q) (by rw [arrV_size]; exact hin) rfl rfl hd fun H1 e1 z oq => ?_
  have hnar : narrow .boolean (.int x) = .int x := by rcases hx01 with rfl | rfl <;> decide +kernel
  rw [hnar] at e1
  refine h s0 G p l e R s m args below meth c H1 _ α la Q hC hcc hss (hR.put hlv hq ((jc_atA hc ht).mpr ?_) z oq (fun q' k' hne => by simp only [jc_up, if_neg (fun (w : q' = q ∧ k' = i.toNatClampNeg) => hne w.1)]) (fun _ _ _ => rfl) (fun k q' h9 => hR.2.2.1 q k q' hlv h9)) (hS.put z oq (hBq hq)) (jc_oks_tl (jc_oks_tl (jc_oks_tl hk))) hkl hl hn K
  rw [e1, arrV_store]
  congr 2
  funext j
  unfold updV jc_av jc_up
  by_cases ej : j = i.toNatClampNeg
  · simp [ej, jc_isA, jc_rz]
  · simp [ej]
/-- what may be stored: null, or an object of the array's class, or of one that is castable to it -/
def jc_sto (C : String) (o : Option jc_L) : Prop := ∀ q, o = some q → ∃ (ci : Nat) (r : vw_C), jc_cel q = .inl ci ∧ classes[ci]? = some r ∧ (r.1 = C ∨ Cond.castable r.1 C ∈ lw_tbl)
theorem jr_aast {ti n : Nat} {C : String} {q : jc_L} {i : Int32} {o : Option jc_L} (hd : decode y.2.1 pc = .ok (.aastore, 1)) (hc : jc_cel q = .inr (ti, n)) (ht : jc_tys[ti]? = some (.object C)) (hq0 : Nat.blt q.1 96 = true) (hin : vp_in i n) (hs : jc_sto C o) (h : jc_R y (pc + 1) ls st I (jc_up O q i.toNatClampNeg o) live nc ns Z) : jc_R y pc ls (.inr o :: .inl i :: .inr (some q) :: st) I O live nc ns Z := by
  have hq : q.1 < 96 := Nat.le_of_ble_eq_true hq0
  intro s0 G p l e R s m args below meth c H locs α la Q hC hcc hss hR hS hk hkl hl hn K
  have hlv : live q := jc_oks_hd (jc_oks_tl (jc_oks_tl hk)) q rfl
  obtain ⟨hat0, hBq⟩ := hR.1 q hlv (by omega)
  have hat := (jc_atA hc ht).mp hat0
  obtain ⟨hBs, hW, hx, hb, -⟩ := id hC
  have go : ∀ H1 : Heap, H1[α q]? = some ((arrV (G.2.1 ti) n (jc_av (.object C) I O α q)).setSlot i.toNatClampNeg (va_rf (o.map α))) → H1.size = H.size → (∀ a, a ≠ α q → H1[a]? = H[a]?) → W p l e R s m args below meth c H1 (locs ++ [⟨α q, i.toNatClampNeg⟩]) nc ns Q (F0 m (pc + 1) la (st.map (jc_rz α))) := by
    intro H1 e1 z oq
    refine h s0 G p l e R s m args below meth c H1 _ α la Q hC hcc hss (hR.put hlv hq ((jc_atA hc ht).mpr ?_) z oq (fun _ _ _ => rfl) (fun q' k' hne => by simp only [jc_up, if_neg (fun (w : q' = q ∧ k' = i.toNatClampNeg) => hne w.1)]) (fun k q' h9 => ?_)) (hS.put z oq (hBq hq)) (jc_oks_tl (jc_oks_tl (jc_oks_tl hk))) hkl hl hn K
    · rw [e1, arrV_store]
      congr 2
      funext j
      unfold updV jc_av jc_up
      by_cases ej : j = i.toNatClampNeg
      · simp [ej, jc_isA, jc_rz]
      · simp [ej]
    · unfold jc_up at h9
      split at h9
      · exact jc_oks_hd hk q' (by rw [h9])
      · exact hR.2.2.1 q k q' hlv h9
  cases o with
  | none => exact va_WaastN (C := C) hx hb hat ((jc_KE hBs hW ht).1 n _) (fun q => by cases q) (by rw [arrV_size]; exact hin) rfl rfl hd go
  | some q2 =>
    have hlv2 : live q2 := jc_oks_hd hk q2 rfl
    obtain ⟨ci, r, hci, hcl, hcast⟩ := hs q2 rfl
    have htg := jc_tag hci
    have hat2 := (hR.1 q2 hlv2 (by omega)).1
    unfold jc_at at hat2
    rw [hci] at hat2
    obtain ⟨r', hr', cellV, g1, g2, g3, -⟩ := hat2
    obtain ⟨kA, comp, k1, k2, k3, -⟩ := (jc_KE hBs hW ht).2
    obtain ⟨kE, hkE, -⟩ := Vm.findClass_spec k3
    have hcls := ((jc_K hBs hW).1 ci r hcl).2
    obtain ⟨kC, hkC, -⟩ := hcls.2
    have hass : s.vm.assignable (G.1.1 ci) comp = true := by
      rcases hcast with e1 | h9
      · have hcomp : comp = G.1.1 ci := by rw [← e1] at k3; exact Option.some.inj (k3.symm.trans hcls.1)
        rw [hcomp]
        exact va_assign hcls
      · obtain ⟨c0, t1, f1, f2, f3⟩ := Cond.castable_spec (va_Nw.use (A := args) rfl (jc_wC hBs hW h9))
        cases hcls.1.symm.trans f1
        cases k3.symm.trans f2
        exact f3
    have h0 : ¬ i < 0 := fun q => hin (Or.inl q)
    exact W.aast hx hb hat (fun q h => by cases h) (fun h => by cases h) k1 k2 rfl hkE ⟨h0, by rw [arrV_size]; exact jc_in hin⟩ g1 (fun q h => by rw [g3] at h; cases h) (by rw [g2]; exact hkC) (by rw [g2]; exact hass) rfl rfl hd go
end JCA
