section JCT
variable {y : jc_Y} {pc : Nat} {ls : List (Option jc_V)} {st : List jc_V} {I : jc_I} {O : jc_O} {live : jc_L → Prop} {nc ns : Nat} {Z : jc_Z}
theorem jr_tableE {dflt lo hi : Int} {offs : Array Int} {len : Nat} {x : Int32} {tgt : Nat} (hd : decode y.2.1 pc = .ok (.tableswitch dflt lo hi offs, len)) (hx : ((x.toInt < lo ∨ hi < x.toInt) ∧ (pc : Int) + dflt = (tgt : Int)) ∨ (¬ x.toInt < lo ∧ ¬ hi < x.toInt ∧ ∃ off, offs[(x.toInt - lo).toNat]? = some off ∧ (pc : Int) + off = (tgt : Int))) (h : jc_R y tgt ls st I O live nc ns Z) : jc_R y pc ls (.inl x :: st) I O live nc ns Z := by
  rcases hx with ⟨h1, h2⟩ | ⟨h1, h2, off, h3, h4⟩
  · exact jr_tableOut hd h1 h2 h
  · exact jr_tableIn hd h1 h2 h3 h4 h
end JCT
theorem j_0_2 (x : Int32) : x < 0 ∨ 2 < x ∨ x = 0 ∨ x = 1 ∨ x = 2 := by
  have hl : ((0 : Int32)).toInt = 0 := by decide
  have hh : ((2 : Int32)).toInt = 2 := by decide
  simp only [Int32.lt_iff_toInt_lt, ← Int32.toInt_inj, hl, hh]
  have v0 : ((0 : Int32)).toInt = 0 := by decide
  have v1 : ((1 : Int32)).toInt = 1 := by decide
  have v2 : ((2 : Int32)).toInt = 2 := by decide
  simp only [v0, v1, v2]
  omega
theorem j_0_5 (x : Int32) : x < 0 ∨ 5 < x ∨ x = 0 ∨ x = 1 ∨ x = 2 ∨ x = 3 ∨ x = 4 ∨ x = 5 := by
  have hl : ((0 : Int32)).toInt = 0 := by decide
  have hh : ((5 : Int32)).toInt = 5 := by decide
  simp only [Int32.lt_iff_toInt_lt, ← Int32.toInt_inj, hl, hh]
  have v0 : ((0 : Int32)).toInt = 0 := by decide
  have v1 : ((1 : Int32)).toInt = 1 := by decide
  have v2 : ((2 : Int32)).toInt = 2 := by decide
  have v3 : ((3 : Int32)).toInt = 3 := by decide
  have v4 : ((4 : Int32)).toInt = 4 := by decide
  have v5 : ((5 : Int32)).toInt = 5 := by decide
  simp only [v0, v1, v2, v3, v4, v5]
  omega
theorem j_0_6 (x : Int32) : x < 0 ∨ 6 < x ∨ x = 0 ∨ x = 1 ∨ x = 2 ∨ x = 3 ∨ x = 4 ∨ x = 5 ∨ x = 6 := by
  have hl : ((0 : Int32)).toInt = 0 := by decide
  have hh : ((6 : Int32)).toInt = 6 := by decide
  simp only [Int32.lt_iff_toInt_lt, ← Int32.toInt_inj, hl, hh]
  have v0 : ((0 : Int32)).toInt = 0 := by decide
  have v1 : ((1 : Int32)).toInt = 1 := by decide
  have v2 : ((2 : Int32)).toInt = 2 := by decide
  have v3 : ((3 : Int32)).toInt = 3 := by decide
  have v4 : ((4 : Int32)).toInt = 4 := by decide
  have v5 : ((5 : Int32)).toInt = 5 := by decide
  have v6 : ((6 : Int32)).toInt = 6 := by decide
  simp only [v0, v1, v2, v3, v4, v5, v6]
  omega
theorem j_0_12 (x : Int32) : x < 0 ∨ 12 < x ∨ x = 0 ∨ x = 1 ∨ x = 2 ∨ x = 3 ∨ x = 4 ∨ x = 5 ∨ x = 6 ∨ x = 7 ∨ x = 8 ∨ x = 9 ∨ x = 10 ∨ x = 11 ∨ x = 12 := by
  have hl : ((0 : Int32)).toInt = 0 := by decide
  have hh : ((12 : Int32)).toInt = 12 := by decide
  simp only [Int32.lt_iff_toInt_lt, ← Int32.toInt_inj, hl, hh]
  have v0 : ((0 : Int32)).toInt = 0 := by decide
  have v1 : ((1 : Int32)).toInt = 1 := by decide
  have v2 : ((2 : Int32)).toInt = 2 := by decide
  have v3 : ((3 : Int32)).toInt = 3 := by decide
  have v4 : ((4 : Int32)).toInt = 4 := by decide
  have v5 : ((5 : Int32)).toInt = 5 := by decide
  have v6 : ((6 : Int32)).toInt = 6 := by decide
  have v7 : ((7 : Int32)).toInt = 7 := by decide
  have v8 : ((8 : Int32)).toInt = 8 := by decide
  have v9 : ((9 : Int32)).toInt = 9 := by decide
  have v10 : ((10 : Int32)).toInt = 10 := by decide
  have v11 : ((11 : Int32)).toInt = 11 := by decide
  have v12 : ((12 : Int32)).toInt = 12 := by decide
  simp only [v0, v1, v2, v3, v4, v5, v6, v7, v8, v9, v10, v11, v12]
  omega
theorem j_0_26 (x : Int32) : x < 0 ∨ 26 < x ∨ x = 0 ∨ x = 1 ∨ x = 2 ∨ x = 3 ∨ x = 4 ∨ x = 5 ∨ x = 6 ∨ x = 7 ∨ x = 8 ∨ x = 9 ∨ x = 10 ∨ x = 11 ∨ x = 12 ∨ x = 13 ∨ x = 14 ∨ x = 15 ∨ x = 16 ∨ x = 17 ∨ x = 18 ∨ x = 19 ∨ x = 20 ∨ x = 21 ∨ x = 22 ∨ x = 23 ∨ x = 24 ∨ x = 25 ∨ x = 26 := by
  have hl : ((0 : Int32)).toInt = 0 := by decide
  have hh : ((26 : Int32)).toInt = 26 := by decide
  simp only [Int32.lt_iff_toInt_lt, ← Int32.toInt_inj, hl, hh]
  have v0 : ((0 : Int32)).toInt = 0 := by decide
  have v1 : ((1 : Int32)).toInt = 1 := by decide
  have v2 : ((2 : Int32)).toInt = 2 := by decide
  have v3 : ((3 : Int32)).toInt = 3 := by decide
  have v4 : ((4 : Int32)).toInt = 4 := by decide
  have v5 : ((5 : Int32)).toInt = 5 := by decide
  have v6 : ((6 : Int32)).toInt = 6 := by decide
  have v7 : ((7 : Int32)).toInt = 7 := by decide
  have v8 : ((8 : Int32)).toInt = 8 := by decide
  have v9 : ((9 : Int32)).toInt = 9 := by decide
  have v10 : ((10 : Int32)).toInt = 10 := by decide
  have v11 : ((11 : Int32)).toInt = 11 := by decide
  have v12 : ((12 : Int32)).toInt = 12 := by decide
  have v13 : ((13 : Int32)).toInt = 13 := by decide
  have v14 : ((14 : Int32)).toInt = 14 := by decide
  have v15 : ((15 : Int32)).toInt = 15 := by decide
  have v16 : ((16 : Int32)).toInt = 16 := by decide
  have v17 : ((17 : Int32)).toInt = 17 := by decide
  have v18 : ((18 : Int32)).toInt = 18 := by decide
  have v19 : ((19 : Int32)).toInt = 19 := by decide
  have v20 : ((20 : Int32)).toInt = 20 := by decide
  have v21 : ((21 : Int32)).toInt = 21 := by decide
  have v22 : ((22 : Int32)).toInt = 22 := by decide
  have v23 : ((23 : Int32)).toInt = 23 := by decide
  have v24 : ((24 : Int32)).toInt = 24 := by decide
  have v25 : ((25 : Int32)).toInt = 25 := by decide
  have v26 : ((26 : Int32)).toInt = 26 := by decide
  simp only [v0, v1, v2, v3, v4, v5, v6, v7, v8, v9, v10, v11, v12, v13, v14, v15, v16, v17, v18, v19, v20, v21, v22, v23, v24, v25, v26]
  omega
theorem j_4_8 (x : Int32) : x < 4 ∨ 8 < x ∨ x = 4 ∨ x = 5 ∨ x = 6 ∨ x = 7 ∨ x = 8 := by
  have hl : ((4 : Int32)).toInt = 4 := by decide
  have hh : ((8 : Int32)).toInt = 8 := by decide
  simp only [Int32.lt_iff_toInt_lt, ← Int32.toInt_inj, hl, hh]
  have v4 : ((4 : Int32)).toInt = 4 := by decide
  have v5 : ((5 : Int32)).toInt = 5 := by decide
  have v6 : ((6 : Int32)).toInt = 6 := by decide
  have v7 : ((7 : Int32)).toInt = 7 := by decide
  have v8 : ((8 : Int32)).toInt = 8 := by decide
  simp only [v4, v5, v6, v7, v8]
  omega
theorem j_4_24 (x : Int32) : x < 4 ∨ 24 < x ∨ x = 4 ∨ x = 5 ∨ x = 6 ∨ x = 7 ∨ x = 8 ∨ x = 9 ∨ x = 10 ∨ x = 11 ∨ x = 12 ∨ x = 13 ∨ x = 14 ∨ x = 15 ∨ x = 16 ∨ x = 17 ∨ x = 18 ∨ x = 19 ∨ x = 20 ∨ x = 21 ∨ x = 22 ∨ x = 23 ∨ x = 24 := by
  have hl : ((4 : Int32)).toInt = 4 := by decide
  have hh : ((24 : Int32)).toInt = 24 := by decide
  simp only [Int32.lt_iff_toInt_lt, ← Int32.toInt_inj, hl, hh]
  have v4 : ((4 : Int32)).toInt = 4 := by decide
  have v5 : ((5 : Int32)).toInt = 5 := by decide
  have v6 : ((6 : Int32)).toInt = 6 := by decide
  have v7 : ((7 : Int32)).toInt = 7 := by decide
  have v8 : ((8 : Int32)).toInt = 8 := by decide
  have v9 : ((9 : Int32)).toInt = 9 := by decide
  have v10 : ((10 : Int32)).toInt = 10 := by decide
  have v11 : ((11 : Int32)).toInt = 11 := by decide
  have v12 : ((12 : Int32)).toInt = 12 := by decide
  have v13 : ((13 : Int32)).toInt = 13 := by decide
  have v14 : ((14 : Int32)).toInt = 14 := by decide
  have v15 : ((15 : Int32)).toInt = 15 := by decide
  have v16 : ((16 : Int32)).toInt = 16 := by decide
  have v17 : ((17 : Int32)).toInt = 17 := by decide
  have v18 : ((18 : Int32)).toInt = 18 := by decide
  have v19 : ((19 : Int32)).toInt = 19 := by decide
  have v20 : ((20 : Int32)).toInt = 20 := by decide
  have v21 : ((21 : Int32)).toInt = 21 := by decide
  have v22 : ((22 : Int32)).toInt = 22 := by decide
  have v23 : ((23 : Int32)).toInt = 23 := by decide
  have v24 : ((24 : Int32)).toInt = 24 := by decide
  simp only [v4, v5, v6, v7, v8, v9, v10, v11, v12, v13, v14, v15, v16, v17, v18, v19, v20, v21, v22, v23, v24]
  omega
theorem j_7_24 (x : Int32) : x < 7 ∨ 24 < x ∨ x = 7 ∨ x = 8 ∨ x = 9 ∨ x = 10 ∨ x = 11 ∨ x = 12 ∨ x = 13 ∨ x = 14 ∨ x = 15 ∨ x = 16 ∨ x = 17 ∨ x = 18 ∨ x = 19 ∨ x = 20 ∨ x = 21 ∨ x = 22 ∨ x = 23 ∨ x = 24 := by
  have hl : ((7 : Int32)).toInt = 7 := by decide
  have hh : ((24 : Int32)).toInt = 24 := by decide
  simp only [Int32.lt_iff_toInt_lt, ← Int32.toInt_inj, hl, hh]
  have v7 : ((7 : Int32)).toInt = 7 := by decide
  have v8 : ((8 : Int32)).toInt = 8 := by decide
  have v9 : ((9 : Int32)).toInt = 9 := by decide
  have v10 : ((10 : Int32)).toInt = 10 := by decide
  have v11 : ((11 : Int32)).toInt = 11 := by decide
  have v12 : ((12 : Int32)).toInt = 12 := by decide
  have v13 : ((13 : Int32)).toInt = 13 := by decide
  have v14 : ((14 : Int32)).toInt = 14 := by decide
  have v15 : ((15 : Int32)).toInt = 15 := by decide
  have v16 : ((16 : Int32)).toInt = 16 := by decide
  have v17 : ((17 : Int32)).toInt = 17 := by decide
  have v18 : ((18 : Int32)).toInt = 18 := by decide
  have v19 : ((19 : Int32)).toInt = 19 := by decide
  have v20 : ((20 : Int32)).toInt = 20 := by decide
  have v21 : ((21 : Int32)).toInt = 21 := by decide
  have v22 : ((22 : Int32)).toInt = 22 := by decide
  have v23 : ((23 : Int32)).toInt = 23 := by decide
  have v24 : ((24 : Int32)).toInt = 24 := by decide
  simp only [v7, v8, v9, v10, v11, v12, v13, v14, v15, v16, v17, v18, v19, v20, v21, v22, v23, v24]
  omega
theorem j_11_24 (x : Int32) : x < 11 ∨ 24 < x ∨ x = 11 ∨ x = 12 ∨ x = 13 ∨ x = 14 ∨ x = 15 ∨ x = 16 ∨ x = 17 ∨ x = 18 ∨ x = 19 ∨ x = 20 ∨ x = 21 ∨ x = 22 ∨ x = 23 ∨ x = 24 := by
  have hl : ((11 : Int32)).toInt = 11 := by decide
  have hh : ((24 : Int32)).toInt = 24 := by decide
  simp only [Int32.lt_iff_toInt_lt, ← Int32.toInt_inj, hl, hh]
  have v11 : ((11 : Int32)).toInt = 11 := by decide
  have v12 : ((12 : Int32)).toInt = 12 := by decide
  have v13 : ((13 : Int32)).toInt = 13 := by decide
  have v14 : ((14 : Int32)).toInt = 14 := by decide
  have v15 : ((15 : Int32)).toInt = 15 := by decide
  have v16 : ((16 : Int32)).toInt = 16 := by decide
  have v17 : ((17 : Int32)).toInt = 17 := by decide
  have v18 : ((18 : Int32)).toInt = 18 := by decide
  have v19 : ((19 : Int32)).toInt = 19 := by decide
  have v20 : ((20 : Int32)).toInt = 20 := by decide
  have v21 : ((21 : Int32)).toInt = 21 := by decide
  have v22 : ((22 : Int32)).toInt = 22 := by decide
  have v23 : ((23 : Int32)).toInt = 23 := by decide
  have v24 : ((24 : Int32)).toInt = 24 := by decide
  simp only [v11, v12, v13, v14, v15, v16, v17, v18, v19, v20, v21, v22, v23, v24]
  omega
theorem j_14_26 (x : Int32) : x < 14 ∨ 26 < x ∨ x = 14 ∨ x = 15 ∨ x = 16 ∨ x = 17 ∨ x = 18 ∨ x = 19 ∨ x = 20 ∨ x = 21 ∨ x = 22 ∨ x = 23 ∨ x = 24 ∨ x = 25 ∨ x = 26 := by
  have hl : ((14 : Int32)).toInt = 14 := by decide
  have hh : ((26 : Int32)).toInt = 26 := by decide
  simp only [Int32.lt_iff_toInt_lt, ← Int32.toInt_inj, hl, hh]
  have v14 : ((14 : Int32)).toInt = 14 := by decide
  have v15 : ((15 : Int32)).toInt = 15 := by decide
  have v16 : ((16 : Int32)).toInt = 16 := by decide
  have v17 : ((17 : Int32)).toInt = 17 := by decide
  have v18 : ((18 : Int32)).toInt = 18 := by decide
  have v19 : ((19 : Int32)).toInt = 19 := by decide
  have v20 : ((20 : Int32)).toInt = 20 := by decide
  have v21 : ((21 : Int32)).toInt = 21 := by decide
  have v22 : ((22 : Int32)).toInt = 22 := by decide
  have v23 : ((23 : Int32)).toInt = 23 := by decide
  have v24 : ((24 : Int32)).toInt = 24 := by decide
  have v25 : ((25 : Int32)).toInt = 25 := by decide
  have v26 : ((26 : Int32)).toInt = 26 := by decide
  simp only [v14, v15, v16, v17, v18, v19, v20, v21, v22, v23, v24, v25, v26]
  omega
theorem j_16_24 (x : Int32) : x < 16 ∨ 24 < x ∨ x = 16 ∨ x = 17 ∨ x = 18 ∨ x = 19 ∨ x = 20 ∨ x = 21 ∨ x = 22 ∨ x = 23 ∨ x = 24 := by
  have hl : ((16 : Int32)).toInt = 16 := by decide
  have hh : ((24 : Int32)).toInt = 24 := by decide
  simp only [Int32.lt_iff_toInt_lt, ← Int32.toInt_inj, hl, hh]
  have v16 : ((16 : Int32)).toInt = 16 := by decide
  have v17 : ((17 : Int32)).toInt = 17 := by decide
  have v18 : ((18 : Int32)).toInt = 18 := by decide
  have v19 : ((19 : Int32)).toInt = 19 := by decide
  have v20 : ((20 : Int32)).toInt = 20 := by decide
  have v21 : ((21 : Int32)).toInt = 21 := by decide
  have v22 : ((22 : Int32)).toInt = 22 := by decide
  have v23 : ((23 : Int32)).toInt = 23 := by decide
  have v24 : ((24 : Int32)).toInt = 24 := by decide
  simp only [v16, v17, v18, v19, v20, v21, v22, v23, v24]
  omega
