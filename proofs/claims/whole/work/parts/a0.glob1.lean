/-- labels of the first side, of the second -/
def isC (a : Nat) : Bool := Nat.blt a 10 || (Nat.ble 20 a && Nat.ble a 35)
def isR (a : Nat) : Bool := (Nat.ble 10 a && Nat.ble a 15) || (Nat.ble 40 a && Nat.ble a 60)
def ctI (f : Nat → Bool) (J : jc_I) : jc_I := fun q k => bif f q.1 then J q k else 0
def ctO (f : Nat → Bool) (O : jc_O) : jc_O := fun q k => bif f q.1 then O q k else none
def ctL (f : Nat → Bool) (l : jc_L → Prop) : jc_L → Prop := fun q => bif f q.1 then l q else False
theorem ctI_e {f : Nat → Bool} {J J' : jc_I} (h : ∀ q k, f q.1 = true → J' q k = J q k) : ctI f J' = ctI f J := by
  funext q k
  unfold ctI
  cases e : f q.1
  · rfl
  · exact h q k e
theorem ctO_e {f : Nat → Bool} {J J' : jc_O} (h : ∀ q k, f q.1 = true → J' q k = J q k) : ctO f J' = ctO f J := by
  funext q k
  unfold ctO
  cases e : f q.1
  · rfl
  · exact h q k e
theorem ctL_e {f : Nat → Bool} {l l' : jc_L → Prop} (h : ∀ q, f q.1 = true → (l' q ↔ l q)) : ctL f l' = ctL f l := by
  funext q
  unfold ctL
  cases e : f q.1
  · rfl
  · exact propext (h q e)
/-- the first side, between calls -/
def GC (J : jc_I) (O : jc_O) (live : jc_L → Prop) (S : Int) (tc sn cn : Nat) (D : Nat → Nat) : Prop := (jw_J O) ∧ (jw_M O) ∧ (jw_G O) ∧ (jw_H J O) ∧ (jw_A J O) ∧ (CO (bk J)) ∧ (HO J S) ∧ (0 ≤ S) ∧ (ThOK O live) ∧ (∀ c : Nat, (c : Int) < (bk J).cn.toInt → 0 ≤ (bk J).res c) ∧ (∀ c i : Nat, c < cn → i < (J (6, c, 0) 7).toNatClampNeg → J (20, c, 0) i = 1 ∨ J (20, c, 0) i = 2) ∧ (∀ c r : Nat, c < cn → r < (J (6, c, 0) 9).toNatClampNeg → 0 ≤ J (5, c, r) 2) ∧ (J (1, 0, 0) 1 = Int32.ofNat cn) ∧ (cn ≤ 40) ∧ (∀ c, cn ≤ c → ¬ live (6, c, 0) ∧ ¬ live (20, c, 0) ∧ ¬ live (21, c, 0) ∧ ¬ live (22, c, 0) ∧ ¬ live (23, c, 0)) ∧ (∀ c r k, cn ≤ c → J (5, c, r) k = 0 ∧ ¬ live (5, c, r)) ∧ (∀ c r, c < cn → (J (6, c, 0) 9).toNatClampNeg ≤ r → ¬ live (5, c, r)) ∧ (J (4, 0, 0) 4 = Int32.ofNat tc) ∧ (tc ≤ sn) ∧ (sn ≤ 8) ∧ (∀ t, t < sn → St O t ∧ J (9, t, 0) 0 = Int32.ofNat t) ∧ (∀ t, sn ≤ t → O (35, 0, 0) t = none ∧ ¬ live (9, t, 0) ∧ ¬ live (34, t, 0) ∧ ∀ j, ¬ live (8, t, j) ∧ ¬ live (32, t, j) ∧ ¬ live (33, t, j)) ∧ (∀ t, t < tc → TH J O t (D t) ∧ ((J (9, t, 0) 4 = 0 ∧ 0 < D t) ∨ ((J (9, t, 0) 4 = 1 ∨ J (9, t, 0) 4 = 2) ∧ D t = 0)) ∧ (J (9, t, 0) 6 = 0 ∨ J (9, t, 0) 6 = 1))
theorem GC.jJ {J : jc_I} {O : jc_O} {live : jc_L → Prop} {S : Int} {tc sn cn : Nat} {D : Nat → Nat} (h9 : GC J O live S tc sn cn D) : jw_J O := h9.1
theorem GC.M {J : jc_I} {O : jc_O} {live : jc_L → Prop} {S : Int} {tc sn cn : Nat} {D : Nat → Nat} (h9 : GC J O live S tc sn cn D) : jw_M O := h9.2.1
theorem GC.G {J : jc_I} {O : jc_O} {live : jc_L → Prop} {S : Int} {tc sn cn : Nat} {D : Nat → Nat} (h9 : GC J O live S tc sn cn D) : jw_G O := h9.2.2.1
theorem GC.H {J : jc_I} {O : jc_O} {live : jc_L → Prop} {S : Int} {tc sn cn : Nat} {D : Nat → Nat} (h9 : GC J O live S tc sn cn D) : jw_H J O := h9.2.2.2.1
theorem GC.A {J : jc_I} {O : jc_O} {live : jc_L → Prop} {S : Int} {tc sn cn : Nat} {D : Nat → Nat} (h9 : GC J O live S tc sn cn D) : jw_A J O := h9.2.2.2.2.1
theorem GC.C {J : jc_I} {O : jc_O} {live : jc_L → Prop} {S : Int} {tc sn cn : Nat} {D : Nat → Nat} (h9 : GC J O live S tc sn cn D) : CO (bk J) := h9.2.2.2.2.2.1
theorem GC.ho {J : jc_I} {O : jc_O} {live : jc_L → Prop} {S : Int} {tc sn cn : Nat} {D : Nat → Nat} (h9 : GC J O live S tc sn cn D) : HO J S := h9.2.2.2.2.2.2.1
theorem GC.s0 {J : jc_I} {O : jc_O} {live : jc_L → Prop} {S : Int} {tc sn cn : Nat} {D : Nat → Nat} (h9 : GC J O live S tc sn cn D) : 0 ≤ S := h9.2.2.2.2.2.2.2.1
theorem GC.th {J : jc_I} {O : jc_O} {live : jc_L → Prop} {S : Int} {tc sn cn : Nat} {D : Nat → Nat} (h9 : GC J O live S tc sn cn D) : ThOK O live := h9.2.2.2.2.2.2.2.2.1
theorem GC.rs {J : jc_I} {O : jc_O} {live : jc_L → Prop} {S : Int} {tc sn cn : Nat} {D : Nat → Nat} (h9 : GC J O live S tc sn cn D) : ∀ c : Nat, (c : Int) < (bk J).cn.toInt → 0 ≤ (bk J).res c := h9.2.2.2.2.2.2.2.2.2.1
theorem GC.lk {J : jc_I} {O : jc_O} {live : jc_L → Prop} {S : Int} {tc sn cn : Nat} {D : Nat → Nat} (h9 : GC J O live S tc sn cn D) : ∀ c i : Nat, c < cn → i < (J (6, c, 0) 7).toNatClampNeg → J (20, c, 0) i = 1 ∨ J (20, c, 0) i = 2 := h9.2.2.2.2.2.2.2.2.2.2.1
theorem GC.ra {J : jc_I} {O : jc_O} {live : jc_L → Prop} {S : Int} {tc sn cn : Nat} {D : Nat → Nat} (h9 : GC J O live S tc sn cn D) : ∀ c r : Nat, c < cn → r < (J (6, c, 0) 9).toNatClampNeg → 0 ≤ J (5, c, r) 2 := h9.2.2.2.2.2.2.2.2.2.2.2.1
theorem GC.cs {J : jc_I} {O : jc_O} {live : jc_L → Prop} {S : Int} {tc sn cn : Nat} {D : Nat → Nat} (h9 : GC J O live S tc sn cn D) : J (1, 0, 0) 1 = Int32.ofNat cn := h9.2.2.2.2.2.2.2.2.2.2.2.2.1
theorem GC.c4 {J : jc_I} {O : jc_O} {live : jc_L → Prop} {S : Int} {tc sn cn : Nat} {D : Nat → Nat} (h9 : GC J O live S tc sn cn D) : cn ≤ 40 := h9.2.2.2.2.2.2.2.2.2.2.2.2.2.1
theorem GC.cf {J : jc_I} {O : jc_O} {live : jc_L → Prop} {S : Int} {tc sn cn : Nat} {D : Nat → Nat} (h9 : GC J O live S tc sn cn D) : ∀ c, cn ≤ c → ¬ live (6, c, 0) ∧ ¬ live (20, c, 0) ∧ ¬ live (21, c, 0) ∧ ¬ live (22, c, 0) ∧ ¬ live (23, c, 0) := h9.2.2.2.2.2.2.2.2.2.2.2.2.2.2.1
theorem GC.rz {J : jc_I} {O : jc_O} {live : jc_L → Prop} {S : Int} {tc sn cn : Nat} {D : Nat → Nat} (h9 : GC J O live S tc sn cn D) : ∀ c r k, cn ≤ c → J (5, c, r) k = 0 ∧ ¬ live (5, c, r) := h9.2.2.2.2.2.2.2.2.2.2.2.2.2.2.2.1
theorem GC.rf {J : jc_I} {O : jc_O} {live : jc_L → Prop} {S : Int} {tc sn cn : Nat} {D : Nat → Nat} (h9 : GC J O live S tc sn cn D) : ∀ c r, c < cn → (J (6, c, 0) 9).toNatClampNeg ≤ r → ¬ live (5, c, r) := h9.2.2.2.2.2.2.2.2.2.2.2.2.2.2.2.2.1
theorem GC.tc1 {J : jc_I} {O : jc_O} {live : jc_L → Prop} {S : Int} {tc sn cn : Nat} {D : Nat → Nat} (h9 : GC J O live S tc sn cn D) : J (4, 0, 0) 4 = Int32.ofNat tc := h9.2.2.2.2.2.2.2.2.2.2.2.2.2.2.2.2.2.1
theorem GC.tcn {J : jc_I} {O : jc_O} {live : jc_L → Prop} {S : Int} {tc sn cn : Nat} {D : Nat → Nat} (h9 : GC J O live S tc sn cn D) : tc ≤ sn := h9.2.2.2.2.2.2.2.2.2.2.2.2.2.2.2.2.2.2.1
theorem GC.sn8 {J : jc_I} {O : jc_O} {live : jc_L → Prop} {S : Int} {tc sn cn : Nat} {D : Nat → Nat} (h9 : GC J O live S tc sn cn D) : sn ≤ 8 := h9.2.2.2.2.2.2.2.2.2.2.2.2.2.2.2.2.2.2.2.1
theorem GC.st {J : jc_I} {O : jc_O} {live : jc_L → Prop} {S : Int} {tc sn cn : Nat} {D : Nat → Nat} (h9 : GC J O live S tc sn cn D) : ∀ t, t < sn → St O t ∧ J (9, t, 0) 0 = Int32.ofNat t := h9.2.2.2.2.2.2.2.2.2.2.2.2.2.2.2.2.2.2.2.2.1
theorem GC.sf {J : jc_I} {O : jc_O} {live : jc_L → Prop} {S : Int} {tc sn cn : Nat} {D : Nat → Nat} (h9 : GC J O live S tc sn cn D) : ∀ t, sn ≤ t → O (35, 0, 0) t = none ∧ ¬ live (9, t, 0) ∧ ¬ live (34, t, 0) ∧ ∀ j, ¬ live (8, t, j) ∧ ¬ live (32, t, j) ∧ ¬ live (33, t, j) := h9.2.2.2.2.2.2.2.2.2.2.2.2.2.2.2.2.2.2.2.2.2.1
theorem GC.ths {J : jc_I} {O : jc_O} {live : jc_L → Prop} {S : Int} {tc sn cn : Nat} {D : Nat → Nat} (h9 : GC J O live S tc sn cn D) : ∀ t, t < tc → TH J O t (D t) ∧ ((J (9, t, 0) 4 = 0 ∧ 0 < D t) ∨ ((J (9, t, 0) 4 = 1 ∨ J (9, t, 0) 4 = 2) ∧ D t = 0)) ∧ (J (9, t, 0) 6 = 0 ∨ J (9, t, 0) 6 = 1) := h9.2.2.2.2.2.2.2.2.2.2.2.2.2.2.2.2.2.2.2.2.2.2
theorem GC.ct {J : jc_I} {O : jc_O} {live : jc_L → Prop} {S : Int} {tc sn cn : Nat} {D : Nat → Nat} (h : GC J O live S tc sn cn D) : GC (ctI isC J) (ctO isC O) (ctL isC live) S tc sn cn D := h
theorem GC.ct' {J : jc_I} {O : jc_O} {live : jc_L → Prop} {S : Int} {tc sn cn : Nat} {D : Nat → Nat} (h : GC (ctI isC J) (ctO isC O) (ctL isC live) S tc sn cn D) : GC J O live S tc sn cn D := h
/-- it speaks of its own labels alone -/
theorem GC.to {J J' : jc_I} {O O' : jc_O} {live live' : jc_L → Prop} {S : Int} {tc sn cn : Nat} {D : Nat → Nat} (h : GC J O live S tc sn cn D) (e : ∀ q k, isC q.1 = true → J' q k = J q k) (eo : ∀ q k, isC q.1 = true → O' q k = O q k) (el : ∀ q, isC q.1 = true → (live' q ↔ live q)) : GC J' O' live' S tc sn cn D := by
  apply GC.ct'
  rw [ctI_e e, ctO_e eo, ctL_e el]
  exact h.ct
/-- the second side, between calls -/
def GR (I : jc_I) (P : jc_O) (lv : jc_L → Prop) (b n tc sn cn zc : Nat) (D fn : Nat → Nat) : Prop := (qA I P lv cn) ∧ (qk I P) ∧ (ql I P lv 2 n (qO b)) ∧ (ql I P lv 1 sn qTh) ∧ (∀ k, k < n → P (13, b + k, 0) 1 = some (47, b + k, 0)) ∧ (∀ k, b + n ≤ k → ¬ lv (13, k, 0) ∧ ¬ lv (47, k, 0)) ∧ (I (10, 0, 0) 5 = Int32.ofNat (b + n)) ∧ (b + n ≤ 40000) ∧ (n ≤ 2000) ∧ (I (10, 0, 0) 3 = Int32.ofNat tc) ∧ (∀ t, t < sn → P (14, t, 0) 1 = some (15, 10 + t, 0) ∧ ql I P lv (10 + t) (fn t) (qFr t) ∧ I (14, t, 0) 2 = Int32.ofNat (D t) ∧ D t ≤ fn t ∧ fn t ≤ 30 ∧ (∀ i, i < fn t → qf P t i) ∧ lcap P (10 + t) ≤ 70) ∧ (∀ t i, fn t ≤ i → ¬ lv (12, t, i) ∧ ¬ lv (48, t, i) ∧ ¬ lv (49, t, i)) ∧ (∀ t i k, fn t ≤ i → I (12, t, i) k = 0 ∧ I (48, t, i) k = 0 ∧ I (49, t, i) k = 0) ∧ (∀ t, sn ≤ t → fn t = 0 ∧ D t = 0) ∧ (∀ t, sn ≤ t → ¬ lv (14, t, 0) ∧ ¬ lv (15, 10 + t, 0) ∧ ∀ c, ¬ lv (60, 10 + t, c)) ∧ (∀ c, cn ≤ c → ¬ lv (11, c, 0) ∧ ¬ lv (40, c, 0) ∧ ¬ lv (41, c, 0) ∧ ¬ lv (42, c, 0) ∧ ¬ lv (43, c, 0) ∧ ¬ lv (44, c, 0) ∧ ¬ lv (45, c, 0) ∧ ¬ lv (46, c, 0)) ∧ (∀ z, zc ≤ z → ¬ lv (52, z, 0))
theorem GR.qa {I : jc_I} {P : jc_O} {lv : jc_L → Prop} {b n tc sn cn zc : Nat} {D fn : Nat → Nat} (h9 : GR I P lv b n tc sn cn zc D fn) : qA I P lv cn := h9.1
theorem GR.k {I : jc_I} {P : jc_O} {lv : jc_L → Prop} {b n tc sn cn zc : Nat} {D fn : Nat → Nat} (h9 : GR I P lv b n tc sn cn zc D fn) : qk I P := h9.2.1
theorem GR.ob {I : jc_I} {P : jc_O} {lv : jc_L → Prop} {b n tc sn cn zc : Nat} {D fn : Nat → Nat} (h9 : GR I P lv b n tc sn cn zc D fn) : ql I P lv 2 n (qO b) := h9.2.2.1
theorem GR.th {I : jc_I} {P : jc_O} {lv : jc_L → Prop} {b n tc sn cn zc : Nat} {D fn : Nat → Nat} (h9 : GR I P lv b n tc sn cn zc D fn) : ql I P lv 1 sn qTh := h9.2.2.2.1
theorem GR.of {I : jc_I} {P : jc_O} {lv : jc_L → Prop} {b n tc sn cn zc : Nat} {D fn : Nat → Nat} (h9 : GR I P lv b n tc sn cn zc D fn) : ∀ k, k < n → P (13, b + k, 0) 1 = some (47, b + k, 0) := h9.2.2.2.2.1
theorem GR.o2 {I : jc_I} {P : jc_O} {lv : jc_L → Prop} {b n tc sn cn zc : Nat} {D fn : Nat → Nat} (h9 : GR I P lv b n tc sn cn zc D fn) : ∀ k, b + n ≤ k → ¬ lv (13, k, 0) ∧ ¬ lv (47, k, 0) := h9.2.2.2.2.2.1
theorem GR.mk {I : jc_I} {P : jc_O} {lv : jc_L → Prop} {b n tc sn cn zc : Nat} {D fn : Nat → Nat} (h9 : GR I P lv b n tc sn cn zc D fn) : I (10, 0, 0) 5 = Int32.ofNat (b + n) := h9.2.2.2.2.2.2.1
theorem GR.mb {I : jc_I} {P : jc_O} {lv : jc_L → Prop} {b n tc sn cn zc : Nat} {D fn : Nat → Nat} (h9 : GR I P lv b n tc sn cn zc D fn) : b + n ≤ 40000 := h9.2.2.2.2.2.2.2.1
theorem GR.n3 {I : jc_I} {P : jc_O} {lv : jc_L → Prop} {b n tc sn cn zc : Nat} {D fn : Nat → Nat} (h9 : GR I P lv b n tc sn cn zc D fn) : n ≤ 2000 := h9.2.2.2.2.2.2.2.2.1
theorem GR.tc1 {I : jc_I} {P : jc_O} {lv : jc_L → Prop} {b n tc sn cn zc : Nat} {D fn : Nat → Nat} (h9 : GR I P lv b n tc sn cn zc D fn) : I (10, 0, 0) 3 = Int32.ofNat tc := h9.2.2.2.2.2.2.2.2.2.1
theorem GR.ts {I : jc_I} {P : jc_O} {lv : jc_L → Prop} {b n tc sn cn zc : Nat} {D fn : Nat → Nat} (h9 : GR I P lv b n tc sn cn zc D fn) : ∀ t, t < sn → P (14, t, 0) 1 = some (15, 10 + t, 0) ∧ ql I P lv (10 + t) (fn t) (qFr t) ∧ I (14, t, 0) 2 = Int32.ofNat (D t) ∧ D t ≤ fn t ∧ fn t ≤ 30 ∧ (∀ i, i < fn t → qf P t i) ∧ lcap P (10 + t) ≤ 70 := h9.2.2.2.2.2.2.2.2.2.2.1
theorem GR.ff {I : jc_I} {P : jc_O} {lv : jc_L → Prop} {b n tc sn cn zc : Nat} {D fn : Nat → Nat} (h9 : GR I P lv b n tc sn cn zc D fn) : ∀ t i, fn t ≤ i → ¬ lv (12, t, i) ∧ ¬ lv (48, t, i) ∧ ¬ lv (49, t, i) := h9.2.2.2.2.2.2.2.2.2.2.2.1
theorem GR.fz {I : jc_I} {P : jc_O} {lv : jc_L → Prop} {b n tc sn cn zc : Nat} {D fn : Nat → Nat} (h9 : GR I P lv b n tc sn cn zc D fn) : ∀ t i k, fn t ≤ i → I (12, t, i) k = 0 ∧ I (48, t, i) k = 0 ∧ I (49, t, i) k = 0 := h9.2.2.2.2.2.2.2.2.2.2.2.2.1
theorem GR.f0 {I : jc_I} {P : jc_O} {lv : jc_L → Prop} {b n tc sn cn zc : Nat} {D fn : Nat → Nat} (h9 : GR I P lv b n tc sn cn zc D fn) : ∀ t, sn ≤ t → fn t = 0 ∧ D t = 0 := h9.2.2.2.2.2.2.2.2.2.2.2.2.2.1
theorem GR.tf {I : jc_I} {P : jc_O} {lv : jc_L → Prop} {b n tc sn cn zc : Nat} {D fn : Nat → Nat} (h9 : GR I P lv b n tc sn cn zc D fn) : ∀ t, sn ≤ t → ¬ lv (14, t, 0) ∧ ¬ lv (15, 10 + t, 0) ∧ ∀ c, ¬ lv (60, 10 + t, c) := h9.2.2.2.2.2.2.2.2.2.2.2.2.2.2.1
theorem GR.cf {I : jc_I} {P : jc_O} {lv : jc_L → Prop} {b n tc sn cn zc : Nat} {D fn : Nat → Nat} (h9 : GR I P lv b n tc sn cn zc D fn) : ∀ c, cn ≤ c → ¬ lv (11, c, 0) ∧ ¬ lv (40, c, 0) ∧ ¬ lv (41, c, 0) ∧ ¬ lv (42, c, 0) ∧ ¬ lv (43, c, 0) ∧ ¬ lv (44, c, 0) ∧ ¬ lv (45, c, 0) ∧ ¬ lv (46, c, 0) := h9.2.2.2.2.2.2.2.2.2.2.2.2.2.2.2.1
theorem GR.mt {I : jc_I} {P : jc_O} {lv : jc_L → Prop} {b n tc sn cn zc : Nat} {D fn : Nat → Nat} (h9 : GR I P lv b n tc sn cn zc D fn) : ∀ z, zc ≤ z → ¬ lv (52, z, 0) := h9.2.2.2.2.2.2.2.2.2.2.2.2.2.2.2.2
theorem GR.ct {I : jc_I} {P : jc_O} {lv : jc_L → Prop} {b n tc sn cn zc : Nat} {D fn : Nat → Nat} (h : GR I P lv b n tc sn cn zc D fn) : GR (ctI isR I) (ctO isR P) (ctL isR lv) b n tc sn cn zc D fn := h
theorem GR.ct' {I : jc_I} {P : jc_O} {lv : jc_L → Prop} {b n tc sn cn zc : Nat} {D fn : Nat → Nat} (h : GR (ctI isR I) (ctO isR P) (ctL isR lv) b n tc sn cn zc D fn) : GR I P lv b n tc sn cn zc D fn := h
theorem GR.to {I I' : jc_I} {P P' : jc_O} {lv lv' : jc_L → Prop} {b n tc sn cn zc : Nat} {D fn : Nat → Nat} (h : GR I P lv b n tc sn cn zc D fn) (e : ∀ q k, isR q.1 = true → I' q k = I q k) (eo : ∀ q k, isR q.1 = true → P' q k = P q k) (el : ∀ q, isR q.1 = true → (lv' q ↔ lv q)) : GR I' P' lv' b n tc sn cn zc D fn := by
  apply GR.ct'
  rw [ctI_e e, ctO_e eo, ctL_e el]
  exact h.ct
