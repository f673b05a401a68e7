section JCN
variable {y : jc_Y} {pc : Nat} {ls : List (Option jc_V)} {st : List jc_V} {I : jc_I} {O : jc_O} {live : jc_L → Prop} {nc ns : Nat} {Z : jc_Z}
theorem jc_fresh {live : jc_L → Prop} {α : jc_L → Nat} {q : jc_L} {a : Nat} (hq : ¬ live q) : ∀ q', live q' → (fun q' => if q' = q then a else α q') q' = α q' := by
  intro q' hl
  have hne : q' ≠ q := fun e => hq (e ▸ hl)
  simp only [if_neg hne]
theorem jr_new {idx ci N : Nat} (q : jc_L) (hd : decode y.2.1 pc = .ok (.new idx, 3)) (hf : jc_nw y.1.cls idx ci N) (hc : jc_cel q = .inl ci) (hq : ¬ live q) (h1 : nc + 1 ≤ Z.2.2.2.2.1) (h2 : ns + N ≤ Z.2.2.2.2.2) (h : jc_R y (pc + 3) ls (.inr (some q) :: st) (jc_cl I q 0) (jc_cl O q none) (fun q' => q' = q ∨ live q') (nc + 1) (ns + N) Z) : jc_R y pc ls st I O live nc ns Z := by
  intro s0 G p l e R s m args below meth c H locs α la Q hC hcc hss hR hS hk hkl hl hn K
  obtain ⟨C, T, hcl, hlk, hins, hini, hck⟩ := hf
  obtain ⟨hBs, hW, hx, hb, hml, hown, hnm, -⟩ := id hC
  have hKn := (jc_K hBs hW).1 ci _ hcl
  have hts := jc_ly (args := args) hBs hW hck
  have htg := jc_tag hc
  refine W.newcK hx hb hown (jc_w hBs hW hlk rfl) (jc_w hBs hW hins rfl) (jc_w hBs hW hini rfl) rfl hd (by omega) (by omega) hKn.2.1 rfl fun H1 kC hkC e1 z1 o1 => ?_
  have hα := jc_fresh (α := α) (a := H.size) hq
  have hRn := hR.new hq (by omega) z1 o1 (by
    unfold jc_at
    rw [hc]
    refine ⟨_, hcl, ?_⟩
    simp only [if_pos]
    refine (u_born (fun k => jc_ty (T k).2.2.1) hts (fun _ h => h) hKn hkC e1 hck.2.1).to (fun k hk9 => ?_)
    have hd9 := hck.2.2.2 k hk9
    unfold jc_fv jc_cl jc_isR
    unfold jc_dok at hd9
    simp only [if_pos]
    by_cases e1 : (T k).2.2.1 = "I"
    · rw [if_pos e1] at hd9
      rw [of_decide_eq_true hd9]
      simp [e1, jc_rz, defaultValue]
    · by_cases e2 : (T k).2.2.1 = "Z"
      · rw [if_neg e1, if_pos e2] at hd9
        rw [of_decide_eq_true hd9]
        simp [e2, jc_rz, defaultValue]
      · rw [if_neg e1, if_neg e2] at hd9
        have hi : (!((T k).2.2.1 == "I" || (T k).2.2.1 == "Z")) = true := by simp [e1, e2]
        rw [hi]
        split at hd9
        · rename_i n hn9; rw [hn9]; rfl
        · rename_i t ht9; rw [ht9]; rfl
        · cases hd9)
  have e9 := h s0 G p l e R s m args below meth c H1 locs _ la Q hC hcc hss hRn ⟨Nat.le_trans hS.1 (by omega), fun x g1 g2 => (o1 x (Nat.lt_of_lt_of_le g1 hS.1)).trans (hS.2.1 x g1 g2), hS.2.2⟩ (jc_oks_cons (jc_ok_r (Or.inl rfl)) (fun v hv q' hq' => Or.inr (hk v hv q' hq'))) (fun v hv q' hq' => Or.inr (hkl v hv q' hq')) (jc_lp_eq hkl hα hl) hn (fun α' H' locs' la' pc' k1 k2 k3 k4 k5 => K α' H' locs' la' pc' k1 k2 (fun q' hq' => (k3 q' (Or.inr hq')).trans (hα q' hq')) k4 k5)
  rw [List.map_cons, jc_rzs_eq hk hα] at e9
  have e8 : jc_rz (fun q' => if q' = q then H.size else α q') (.inr (some q)) = Value.ref H.size := by simp [jc_rz, va_rf]
  rw [e8] at e9
  exact e9
theorem jr_newa {ti N : Nat} {atype : ArrayType} {n : Int32} (q : jc_L) (hd : decode y.2.1 pc = .ok (.newarray atype, 2)) (hf : Cond.arrayClass (newarray.typeOf atype) ∈ lw_tbl) (ht : jc_tys[ti]? = some (newarray.typeOf atype)) (hA : jc_isA (newarray.typeOf atype) = false) (hdf : defaultValue (newarray.typeOf atype) = .int 0) (hc : jc_cel q = .inr (ti, N)) (hq90 : Nat.blt q.1 96 = true) (hq : ¬ live q) (hn0 : ¬ n < 0) (hN : n.toNatClampNeg = N) (hby : N * componentBytes (newarray.typeOf atype) ≤ 536870912) (h1 : nc + 1 ≤ Z.2.2.2.2.1) (h2 : ns + N ≤ Z.2.2.2.2.2)
    (h : jc_R y (pc + 2) ls (.inr (some q) :: st) (jc_cl I q 0) (jc_cl O q none) (fun q' => q' = q ∨ live q') (nc + 1) (ns + N) Z) : jc_R y pc ls (.inl n :: st) I O live nc ns Z := by
  have hq9 : q.1 < 96 := Nat.le_of_ble_eq_true hq90
  intro s0 G p l e R s m args below meth c H locs α la Q hC hcc hss hR hS hk hkl hl hn K
  obtain ⟨hBs, hW, hx, hb, hml, hown, hnm, -⟩ := id hC
  refine va_newaK hx hb (jc_wA hBs hW hf) rfl hd rfl hn0 hN hby (by omega) (by omega) rfl fun H1 cA e1 z1 o1 hAr hNm => ?_
  have hα := jc_fresh (α := α) (a := H.size) hq
  have hcA : cA = G.2.1 ti := by
    have h9 := (jc_KE hBs hW ht).2
    cases atype <;> exact Option.some.inj (hNm.symm.trans h9)
  have hRn := hR.new hq hq9 z1 o1 ((jc_atA hc ht).mpr (by
    simp only [if_pos]
    rw [e1, hcA, hdf]
    congr 2
    funext j
    unfold jc_av
    rw [hA]
    simp [jc_cl, jc_rz]))
  have hk' := jc_oks_tl hk
  have e9 := h s0 G p l e R s m args below meth c H1 locs _ la Q hC hcc hss hRn ⟨Nat.le_trans hS.1 (by omega), fun x g1 g2 => (o1 x (Nat.lt_of_lt_of_le g1 hS.1)).trans (hS.2.1 x g1 g2), hS.2.2⟩ (jc_oks_cons (jc_ok_r (Or.inl rfl)) (fun v hv q' hq' => Or.inr (hk' v hv q' hq'))) (fun v hv q' hq' => Or.inr (hkl v hv q' hq')) (jc_lp_eq hkl hα hl) hn (fun α' H' locs' la' pc' k1 k2 k3 k4 k5 => K α' H' locs' la' pc' k1 k2 (fun q' hq' => (k3 q' (Or.inr hq')).trans (hα q' hq')) k4 k5)
  rw [List.map_cons, jc_rzs_eq hk' hα] at e9
  have e8 : jc_rz (fun q' => if q' = q then H.size else α q') (.inr (some q)) = Value.ref H.size := by simp [jc_rz, va_rf]
  rw [e8] at e9
  exact e9
theorem jr_newq {idx ti N : Nat} {C : String} {n : Int32} (q : jc_L) (hd : decode y.2.1 pc = .ok (.anewarray idx, 3)) (hlk : Cond.classLink y.1.cls idx C ∈ lw_tbl) (hov : Cond.arrayOver (.object C) ∈ lw_tbl) (ht : jc_tys[ti]? = some (.object C)) (hc : jc_cel q = .inr (ti, N)) (hq90 : Nat.blt q.1 96 = true) (hq : ¬ live q) (hn0 : ¬ n < 0) (hN : n.toNatClampNeg = N) (hby : N * 4 ≤ 536870912) (h1 : nc + 1 ≤ Z.2.2.2.2.1) (h2 : ns + N ≤ Z.2.2.2.2.2)
    (h : jc_R y (pc + 3) ls (.inr (some q) :: st) (jc_cl I q 0) (jc_cl O q none) (fun q' => q' = q ∨ live q') (nc + 1) (ns + N) Z) : jc_R y pc ls (.inl n :: st) I O live nc ns Z := by
  have hq9 : q.1 < 96 := Nat.le_of_ble_eq_true hq90
  intro s0 G p l e R s m args below meth c H locs α la Q hC hcc hss hR hS hk hkl hl hn K
  obtain ⟨hBs, hW, hx, hb, hml, hown, hnm, -⟩ := id hC
  subst hN
  refine W.anew hx hb hown (jc_w hBs hW hlk rfl) (va_AO.use (jc_wO hBs hW hov)) rfl hd rfl hn0 hby (by omega) (by omega) fun cA kA comp f1 f2 f3 f4 => ?_
  generalize hH1 : H.push ({ cls := cA, slots := Array.replicate n.toNatClampNeg .null, vm := .none } : Cell) = H1
  have z1 : H1.size = H.size + 1 := by rw [← hH1, Array.size_push]
  have e1 : H1[H.size]? = some (arrV cA n.toNatClampNeg (fun _ => .null)) := by rw [← hH1, Array.getElem?_push_size, ← arrV_new]
  have o1 : ∀ q : Nat, q < H.size → H1[q]? = H[q]? := fun q hq => by rw [← hH1, Array.getElem?_push, if_neg (Nat.ne_of_lt hq)]
  have hα := jc_fresh (α := α) (a := H.size) hq
  have hcA : cA = G.2.1 ti := by
    obtain ⟨-, -, -, -, -, h9⟩ := (jc_KE hBs hW ht).2
    exact Option.some.inj (f1.symm.trans h9)
  have hRn := hR.new hq hq9 z1 o1 ((jc_atA hc ht).mpr (by
    simp only [if_pos]
    rw [e1, hcA]
    congr 2
    funext j
    simp [jc_av, jc_isA, jc_cl, jc_rz, va_rf]))
  have hk' := jc_oks_tl hk
  have e9 := h s0 G p l e R s m args below meth c H1 locs _ la Q hC hcc hss hRn ⟨Nat.le_trans hS.1 (by omega), fun x g1 g2 => (o1 x (Nat.lt_of_lt_of_le g1 hS.1)).trans (hS.2.1 x g1 g2), hS.2.2⟩ (jc_oks_cons (jc_ok_r (Or.inl rfl)) (fun v hv q' hq' => Or.inr (hk' v hv q' hq'))) (fun v hv q' hq' => Or.inr (hkl v hv q' hq')) (jc_lp_eq hkl hα hl) hn (fun α' H' locs' la' pc' k1 k2 k3 k4 k5 => K α' H' locs' la' pc' k1 k2 (fun q' hq' => (k3 q' (Or.inr hq')).trans (hα q' hq')) k4 k5)
  rw [List.map_cons, jc_rzs_eq hk' hα] at e9
  have e8 : jc_rz (fun q' => if q' = q then H.size else α q') (.inr (some q)) = Value.ref H.size := by simp [jc_rz, va_rf]
  rw [e8] at e9
  exact e9
end JCN
