section SHEET
variable {pgC : Nat → Int32} {pgL : Int32} {stC : Nat → Int32} {stL : Int32} {PA : Nat → Nat → Int32} {PS : Nat → Int32} {BA : Nat → Nat → Int32} {BS : Nat → Int32} {u : List Cl}
theorem i32_of {x v : Int32} {z : Int} (h : x.toInt = z) (hv : v.toInt = z) : x = v := Int32.toInt_inj.mp (h.trans hv.symm)
def tyF (PA : Nat → Nat → Int32) (PS : Nat → Int32) (x : Int32) : Int32 := if hasF PS x = 0 then -1 else PA 0 x.toNatClampNeg
def adF (PA : Nat → Nat → Int32) (PS : Nat → Int32) (x : Int32) : Int32 := if hasF PS x = 0 then -1 else PA 6 x.toNatClampNeg
def clF (PA : Nat → Nat → Int32) (PS : Nat → Int32) (x : Int32) : Int32 := if hasF PS x = 0 then -1 else PA 5 x.toNatClampNeg
def thF (PA : Nat → Nat → Int32) (PS : Nat → Int32) (x : Int32) : Int32 := if hasF PS x = 0 then 0 else PA 4 x.toNatClampNeg
def tuF (PA : Nat → Nat → Int32) (PS : Nat → Int32) (x : Int32) : Int32 := if hasF PS x = 0 then 0 else (PS 12 >>> (PA 2 x.toNatClampNeg &&& 31)) &&& 1
def beF (PA : Nat → Nat → Int32) (PS : Nat → Int32) (x k : Int32) : Int32 := if hasF PS x = 0 then -1 else if k < 0 then -1 else if 4 ≤ k then -1 else PA 3 (4 * x.toNatClampNeg + k.toNatClampNeg)
def cellX (PA : Nat → Nat → Int32) (PS : Nat → Int32) (x y : Int32) : Int32 := if hasF PS x = 0 then -1001 else if y = 0 then tyF PA PS x else if y = 1 then adF PA PS x else if y = 2 then tuF PA PS x else if y = 10 ∨ y = 11 ∨ y = 12 ∨ y = 13 then beF PA PS x (y - 10) else -1002
def fixC (n f h m : Nat) : Nat := match m with
  | 0 => 0
  | m + 1 => fixC n f h m + (if (f * m + h) % n = m then 1 else 0)
theorem fixC_le (n f h m : Nat) : fixC n f h m ≤ m := by
  induction m with
  | zero => exact Nat.le_refl _
  | succ m ih => unfold fixC; split <;> omega
def partsI (k : Int32) : Int32 := if k = 0 then 32 else if k = 1 then 32 else if k = 2 then 128 else 0
def dueA (th k : Nat) : Int32 := match k with
  | 0 => 0
  | k + 1 => if (nI k &&& (nI th ^^^ (-1))) = 0 then dueA th k ||| ((1 <<< (nI k &&& 31)) ||| (1 <<< ((16 + nI k) &&& 31))) else dueA th k
theorem x_has (x : Int32) : CC 0 mX1_has 0 0 [.ref 105, .int x] (WX pgC pgL stC stL PA PS BA BS u) (Rt (hasF PS x) (WX pgC pgL stC stL PA PS BA BS u)) := s_has x
theorem x_typeOf (x : Int32) : CC 1 mX1_typeOf 0 0 [.ref 105, .int x] (WX pgC pgL stC stL PA PS BA BS u) (Rt (tyF PA PS x) (WX pgC pgL stC stL PA PS BA BS u)) := s_typeOf x
theorem x_addressOf (x : Int32) : CC 1 mX1_addressOf 0 0 [.ref 105, .int x] (WX pgC pgL stC stL PA PS BA BS u) (Rt (adF PA PS x) (WX pgC pgL stC stL PA PS BA BS u)) := s_addressOf x
theorem x_cellOf (x : Int32) : CC 1 mX1_cellOf 0 0 [.ref 105, .int x] (WX pgC pgL stC stL PA PS BA BS u) (Rt (clF PA PS x) (WX pgC pgL stC stL PA PS BA BS u)) := s_cellOf x
theorem x_there (x : Int32) : CC 1 mX1_there 0 0 [.ref 105, .int x] (WX pgC pgL stC stL PA PS BA BS u) (Rt (thF PA PS x) (WX pgC pgL stC stL PA PS BA BS u)) := s_there x
theorem x_turnedAt (x : Int32) : CC 1 mX1_turnedAt 0 0 [.ref 105, .int x] (WX pgC pgL stC stL PA PS BA BS u) (Rt (tuF PA PS x) (WX pgC pgL stC stL PA PS BA BS u)) := s_turnedAt x
theorem x_beside (x k : Int32) : CC 1 mX1_beside 0 0 [.ref 105, .int x, .int k] (WX pgC pgL stC stL PA PS BA BS u) (Rt (beF PA PS x k) (WX pgC pgL stC stL PA PS BA BS u)) := s_beside x k
def ctF (PA : Nat → Nat → Int32) (t : Int32) : Int32 := if t < 0 then 0 else if 5 ≤ t then 0 else PA 1 t.toNatClampNeg
theorem x_cellsOfType (t : Int32) : CC 0 mX1_cellsOfType 0 0 [.ref 105, .int t] (WX pgC pgL stC stL PA PS BA BS u) (Rt (ctF PA t) (WX pgC pgL stC stL PA PS BA BS u)) := s_cellsOfType t
theorem x_at (x : Int32) : CC 2 mX3_at 0 0 [.ref 100, .int x] (WX pgC pgL stC stL PA PS BA BS u) (Rt (if hasF PS x = 0 then -1001 else clF PA PS x) (WX pgC pgL stC stL PA PS BA BS u)) := by
  refine CC.of okX3_at.1 (Nat.le_of_ble_eq_true rfl) (fun g M => ?_)
  show g 0 0 0 [(0, .ref 100), (1, .int x)] [] (WX pgC pgL stC stL PA PS BA BS u)
  refine M.blk (is := [(.aload_n 0, 0, 0, 0), (.getfield 22, 3, 2, 0), (.iload_n 1, 1, 0, 0)]) (pc1 := 5) (lo1 := [(0, .ref 100), (1, .int x)]) (st1 := [.int x, .ref 105]) (w1 := (WX pgC pgL stC stL PA PS BA BS u)) (by decide +kernel) rfl ?_
  refine M.callVi (as := [.int x]) (st := []) (nx := 8) okX1_has lkX3_78 (x_has x) (by decide +kernel) (by decide) rfl (Nat.le_of_ble_eq_true rfl) rfl (by decide) ?_
  refine M.if_eq (off := 14) (tgt := 22) (nx := 11) (by decide +kernel) (fun z8 => ?_) (fun z8 => ?_)
  · refine M.blk (is := [(.sipush (-1001), 0, 0, (-1001))]) (pc1 := 25) (lo1 := [(0, .ref 100), (1, .int x)]) (st1 := [.int (-1001)]) (w1 := (WX pgC pgL stC stL PA PS BA BS u)) (by decide +kernel) rfl ?_
    exact M.reti (nx := 26) (by decide +kernel) ⟨by simp [*], rfl⟩
  · refine M.blk (is := [(.aload_n 0, 0, 0, 0), (.getfield 22, 3, 2, 0), (.iload_n 1, 1, 0, 0)]) (pc1 := 16) (lo1 := [(0, .ref 100), (1, .int x)]) (st1 := [.int x, .ref 105]) (w1 := (WX pgC pgL stC stL PA PS BA BS u)) (by decide +kernel) rfl ?_
    refine M.callVi (as := [.int x]) (st := []) (nx := 19) okX1_cellOf lkX3_75 (x_cellOf x) (by decide +kernel) (by decide) rfl (Nat.le_of_ble_eq_true rfl) rfl (by decide) ?_
    refine M.blk (is := [(.goto 6, 25, 0, 0)]) (pc1 := 25) (lo1 := [(0, .ref 100), (1, .int x)]) (st1 := [.int (clF PA PS x)]) (w1 := (WX pgC pgL stC stL PA PS BA BS u)) (by decide +kernel) rfl ?_
    exact M.reti (nx := 26) (by decide +kernel) ⟨by simp [*], rfl⟩
theorem cell_out {y : Int32} (h : y.toInt < 0 ∨ 0 + (([88, 97, 106, 128, 128, 128, 128, 128, 128, 128, 115, 115, 115, 115] : List Nat).length : Int) ≤ y.toInt) {A B C D : Int32} : (if y = 0 then A else if y = 1 then B else if y = 2 then C else if y = 10 ∨ y = 11 ∨ y = 12 ∨ y = 13 then D else -1002) = -1002 := by
  have key : ∀ v : Int32, 0 ≤ v.toInt → v.toInt ≤ 13 → ¬ y = v := by
    rintro v h1 h2 rfl
    simp only [List.length_cons, List.length_nil] at h
    omega
  rw [if_neg (key 0 (by decide) (by decide)), if_neg (key 1 (by decide) (by decide)), if_neg (key 2 (by decide) (by decide)), if_neg]
  rintro (h1 | h1 | h1 | h1)
  · exact key 10 (by decide) (by decide) h1
  · exact key 11 (by decide) (by decide) h1
  · exact key 12 (by decide) (by decide) h1
  · exact key 13 (by decide) (by decide) h1
theorem x_cell (x y : Int32) : CC 2 mX3_cell 0 0 [.ref 100, .int x, .int y] (WX pgC pgL stC stL PA PS BA BS u) (Rt (cellX PA PS x y) (WX pgC pgL stC stL PA PS BA BS u)) := by
  refine CC.of okX3_cell.1 (Nat.le_of_ble_eq_true rfl) (fun g M => ?_)
  show g 0 0 0 [(0, .ref 100), (1, .int x), (2, .int y)] [] (WX pgC pgL stC stL PA PS BA BS u)
  -- walk
  refine M.blk (is := [(.aload_n 0, 0, 0, 0), (.getfield 22, 3, 2, 0), (.iload_n 1, 1, 0, 0)]) (pc1 := 5) (lo1 := [(0, .ref 100), (1, .int x), (2, .int y)]) (st1 := [.int x, .ref 105]) (w1 := (WX pgC pgL stC stL PA PS BA BS u)) (by decide +kernel) rfl ?_
  refine M.callVi (as := [.int x]) (st := []) (nx := 8) okX1_has lkX3_78 (x_has x) (by decide +kernel) (by decide) rfl (Nat.le_of_ble_eq_true rfl) rfl (by decide) ?_
  refine M.if_ne (off := 7) (tgt := 15) (nx := 11) (by decide +kernel) (fun z8 => ?_) (fun z8 => ?_)
  · refine M.blk (is := [(.iload_n 2, 2, 0, 0)]) (pc1 := 16) (lo1 := [(0, .ref 100), (1, .int x), (2, .int y)]) (st1 := [.int y]) (w1 := (WX pgC pgL stC stL PA PS BA BS u)) (by decide +kernel) rfl ?_
    refine M.tsw (dflt := 112) (a := 0) (b := 13) (offs := #[72, 81, 90, 112, 112, 112, 112, 112, 112, 112, 99, 99, 99, 99]) (len := 72) (tg := [88, 97, 106, 128, 128, 128, 128, 128, 128, 128, 115, 115, 115, 115]) (dt := 128) (by decide +kernel) (fun j t hj hx16 => ?_) (fun hx16 => ?_)
    · match j, hj, hx16 with
      | 0, hj, hx16 =>
        cases hj
        have hx16 : y = 0 := i32_of hx16 (by decide)
        subst hx16
        refine M.blk (is := [(.aload_n 0, 0, 0, 0), (.getfield 22, 3, 2, 0), (.iload_n 1, 1, 0, 0)]) (pc1 := 93) (lo1 := [(0, .ref 100), (1, .int x), (2, .int 0)]) (st1 := [.int x, .ref 105]) (w1 := (WX pgC pgL stC stL PA PS BA BS u)) (by decide +kernel) rfl ?_
        refine M.callVi (as := [.int x]) (st := []) (nx := 96) okX1_typeOf lkX3_81 (x_typeOf x) (by decide +kernel) (by decide) rfl (Nat.le_of_ble_eq_true rfl) rfl (by decide) ?_
        exact M.reti (nx := 97) (by decide +kernel) ⟨by rw [cellX, if_neg z8]; rfl, rfl⟩
      | 1, hj, hx16 =>
        cases hj
        have hx16 : y = 1 := i32_of hx16 (by decide)
        subst hx16
        refine M.blk (is := [(.aload_n 0, 0, 0, 0), (.getfield 22, 3, 2, 0), (.iload_n 1, 1, 0, 0)]) (pc1 := 102) (lo1 := [(0, .ref 100), (1, .int x), (2, .int 1)]) (st1 := [.int x, .ref 105]) (w1 := (WX pgC pgL stC stL PA PS BA BS u)) (by decide +kernel) rfl ?_
        refine M.callVi (as := [.int x]) (st := []) (nx := 105) okX1_addressOf lkX3_84 (x_addressOf x) (by decide +kernel) (by decide) rfl (Nat.le_of_ble_eq_true rfl) rfl (by decide) ?_
        exact M.reti (nx := 106) (by decide +kernel) ⟨by rw [cellX, if_neg z8]; rfl, rfl⟩
      | 2, hj, hx16 =>
        cases hj
        have hx16 : y = 2 := i32_of hx16 (by decide)
        subst hx16
        refine M.blk (is := [(.aload_n 0, 0, 0, 0), (.getfield 22, 3, 2, 0), (.iload_n 1, 1, 0, 0)]) (pc1 := 111) (lo1 := [(0, .ref 100), (1, .int x), (2, .int 2)]) (st1 := [.int x, .ref 105]) (w1 := (WX pgC pgL stC stL PA PS BA BS u)) (by decide +kernel) rfl ?_
        refine M.callVi (as := [.int x]) (st := []) (nx := 114) okX1_turnedAt lkX3_87 (x_turnedAt x) (by decide +kernel) (by decide) rfl (Nat.le_of_ble_eq_true rfl) rfl (by decide) ?_
        exact M.reti (nx := 115) (by decide +kernel) ⟨by rw [cellX, if_neg z8]; rfl, rfl⟩
      | 3, hj, hx16 =>
        cases hj
        have hx16 : y = 3 := i32_of hx16 (by decide)
        subst hx16
        refine M.blk (is := [(.sipush (-1002), 0, 0, (-1002))]) (pc1 := 131) (lo1 := [(0, .ref 100), (1, .int x), (2, .int 3)]) (st1 := [.int (-1002)]) (w1 := (WX pgC pgL stC stL PA PS BA BS u)) (by decide +kernel) rfl ?_
        exact M.reti (nx := 132) (by decide +kernel) ⟨by rw [cellX, if_neg z8]; rfl, rfl⟩
      | 4, hj, hx16 =>
        cases hj
        have hx16 : y = 4 := i32_of hx16 (by decide)
        subst hx16
        refine M.blk (is := [(.sipush (-1002), 0, 0, (-1002))]) (pc1 := 131) (lo1 := [(0, .ref 100), (1, .int x), (2, .int 4)]) (st1 := [.int (-1002)]) (w1 := (WX pgC pgL stC stL PA PS BA BS u)) (by decide +kernel) rfl ?_
        exact M.reti (nx := 132) (by decide +kernel) ⟨by rw [cellX, if_neg z8]; rfl, rfl⟩
      | 5, hj, hx16 =>
        cases hj
        have hx16 : y = 5 := i32_of hx16 (by decide)
        subst hx16
        refine M.blk (is := [(.sipush (-1002), 0, 0, (-1002))]) (pc1 := 131) (lo1 := [(0, .ref 100), (1, .int x), (2, .int 5)]) (st1 := [.int (-1002)]) (w1 := (WX pgC pgL stC stL PA PS BA BS u)) (by decide +kernel) rfl ?_
        exact M.reti (nx := 132) (by decide +kernel) ⟨by rw [cellX, if_neg z8]; rfl, rfl⟩
      | 6, hj, hx16 =>
        cases hj
        have hx16 : y = 6 := i32_of hx16 (by decide)
        subst hx16
        refine M.blk (is := [(.sipush (-1002), 0, 0, (-1002))]) (pc1 := 131) (lo1 := [(0, .ref 100), (1, .int x), (2, .int 6)]) (st1 := [.int (-1002)]) (w1 := (WX pgC pgL stC stL PA PS BA BS u)) (by decide +kernel) rfl ?_
        exact M.reti (nx := 132) (by decide +kernel) ⟨by rw [cellX, if_neg z8]; rfl, rfl⟩
      | 7, hj, hx16 =>
        cases hj
        have hx16 : y = 7 := i32_of hx16 (by decide)
        subst hx16
        refine M.blk (is := [(.sipush (-1002), 0, 0, (-1002))]) (pc1 := 131) (lo1 := [(0, .ref 100), (1, .int x), (2, .int 7)]) (st1 := [.int (-1002)]) (w1 := (WX pgC pgL stC stL PA PS BA BS u)) (by decide +kernel) rfl ?_
        exact M.reti (nx := 132) (by decide +kernel) ⟨by rw [cellX, if_neg z8]; rfl, rfl⟩
      | 8, hj, hx16 =>
        cases hj
        have hx16 : y = 8 := i32_of hx16 (by decide)
        subst hx16
        refine M.blk (is := [(.sipush (-1002), 0, 0, (-1002))]) (pc1 := 131) (lo1 := [(0, .ref 100), (1, .int x), (2, .int 8)]) (st1 := [.int (-1002)]) (w1 := (WX pgC pgL stC stL PA PS BA BS u)) (by decide +kernel) rfl ?_
        exact M.reti (nx := 132) (by decide +kernel) ⟨by rw [cellX, if_neg z8]; rfl, rfl⟩
      | 9, hj, hx16 =>
        cases hj
        have hx16 : y = 9 := i32_of hx16 (by decide)
        subst hx16
        refine M.blk (is := [(.sipush (-1002), 0, 0, (-1002))]) (pc1 := 131) (lo1 := [(0, .ref 100), (1, .int x), (2, .int 9)]) (st1 := [.int (-1002)]) (w1 := (WX pgC pgL stC stL PA PS BA BS u)) (by decide +kernel) rfl ?_
        exact M.reti (nx := 132) (by decide +kernel) ⟨by rw [cellX, if_neg z8]; rfl, rfl⟩
      | 10, hj, hx16 =>
        cases hj
        have hx16 : y = 10 := i32_of hx16 (by decide)
        subst hx16
        refine M.blk (is := [(.aload_n 0, 0, 0, 0), (.getfield 22, 3, 2, 0), (.iload_n 1, 1, 0, 0), (.iload_n 2, 2, 0, 0), (.bipush 10, 0, 0, 10), (.isub, 0, 0, 0)]) (pc1 := 124) (lo1 := [(0, .ref 100), (1, .int x), (2, .int 10)]) (st1 := [.int 0, .int x, .ref 105]) (w1 := (WX pgC pgL stC stL PA PS BA BS u)) (by decide +kernel) rfl ?_
        refine M.callVi (as := [.int x, .int 0]) (st := []) (nx := 127) okX1_beside lkX3_90 (x_beside x 0) (by decide +kernel) (by decide) rfl (Nat.le_of_ble_eq_true rfl) rfl (by decide) ?_
        exact M.reti (nx := 128) (by decide +kernel) ⟨by rw [cellX, if_neg z8]; rfl, rfl⟩
      | 11, hj, hx16 =>
        cases hj
        have hx16 : y = 11 := i32_of hx16 (by decide)
        subst hx16
        refine M.blk (is := [(.aload_n 0, 0, 0, 0), (.getfield 22, 3, 2, 0), (.iload_n 1, 1, 0, 0), (.iload_n 2, 2, 0, 0), (.bipush 10, 0, 0, 10), (.isub, 0, 0, 0)]) (pc1 := 124) (lo1 := [(0, .ref 100), (1, .int x), (2, .int 11)]) (st1 := [.int 1, .int x, .ref 105]) (w1 := (WX pgC pgL stC stL PA PS BA BS u)) (by decide +kernel) rfl ?_
        refine M.callVi (as := [.int x, .int 1]) (st := []) (nx := 127) okX1_beside lkX3_90 (x_beside x 1) (by decide +kernel) (by decide) rfl (Nat.le_of_ble_eq_true rfl) rfl (by decide) ?_
        exact M.reti (nx := 128) (by decide +kernel) ⟨by rw [cellX, if_neg z8]; rfl, rfl⟩
      | 12, hj, hx16 =>
        cases hj
        have hx16 : y = 12 := i32_of hx16 (by decide)
        subst hx16
        refine M.blk (is := [(.aload_n 0, 0, 0, 0), (.getfield 22, 3, 2, 0), (.iload_n 1, 1, 0, 0), (.iload_n 2, 2, 0, 0), (.bipush 10, 0, 0, 10), (.isub, 0, 0, 0)]) (pc1 := 124) (lo1 := [(0, .ref 100), (1, .int x), (2, .int 12)]) (st1 := [.int 2, .int x, .ref 105]) (w1 := (WX pgC pgL stC stL PA PS BA BS u)) (by decide +kernel) rfl ?_
        refine M.callVi (as := [.int x, .int 2]) (st := []) (nx := 127) okX1_beside lkX3_90 (x_beside x 2) (by decide +kernel) (by decide) rfl (Nat.le_of_ble_eq_true rfl) rfl (by decide) ?_
        exact M.reti (nx := 128) (by decide +kernel) ⟨by rw [cellX, if_neg z8]; rfl, rfl⟩
      | 13, hj, hx16 =>
        cases hj
        have hx16 : y = 13 := i32_of hx16 (by decide)
        subst hx16
        refine M.blk (is := [(.aload_n 0, 0, 0, 0), (.getfield 22, 3, 2, 0), (.iload_n 1, 1, 0, 0), (.iload_n 2, 2, 0, 0), (.bipush 10, 0, 0, 10), (.isub, 0, 0, 0)]) (pc1 := 124) (lo1 := [(0, .ref 100), (1, .int x), (2, .int 13)]) (st1 := [.int 3, .int x, .ref 105]) (w1 := (WX pgC pgL stC stL PA PS BA BS u)) (by decide +kernel) rfl ?_
        refine M.callVi (as := [.int x, .int 3]) (st := []) (nx := 127) okX1_beside lkX3_90 (x_beside x 3) (by decide +kernel) (by decide) rfl (Nat.le_of_ble_eq_true rfl) rfl (by decide) ?_
        exact M.reti (nx := 128) (by decide +kernel) ⟨by rw [cellX, if_neg z8]; rfl, rfl⟩
      | j + 14, hj, _ => exact absurd hj (by simp)
    · refine M.blk (is := [(.sipush (-1002), 0, 0, (-1002))]) (pc1 := 131) (lo1 := [(0, .ref 100), (1, .int x), (2, .int y)]) (st1 := [.int (-1002)]) (w1 := (WX pgC pgL stC stL PA PS BA BS u)) (by decide +kernel) rfl ?_
      exact M.reti (nx := 132) (by decide +kernel) ⟨by rw [cellX, if_neg z8, cell_out hx16], rfl⟩
  · refine M.blk (is := [(.sipush (-1001), 0, 0, (-1001))]) (pc1 := 14) (lo1 := [(0, .ref 100), (1, .int x), (2, .int y)]) (st1 := [.int (-1001)]) (w1 := (WX pgC pgL stC stL PA PS BA BS u)) (by decide +kernel) rfl ?_
    exact M.reti (nx := 15) (by decide +kernel) ⟨by rw [cellX, if_pos z8], rfl⟩
theorem x_sheet (x y : Int32) : CC 4 mX3_sheet 0 0 [.ref 100, .int x, .int y] (WX pgC pgL stC stL PA PS BA BS u) (fun r0 w1 => (¬ layP x y ∧ r0 = some (.int (-1002)) ∧ w1 = (WX pgC pgL stC stL PA PS BA BS u)) ∨ (∃ r c : Nat, x = nI r ∧ y = nI c ∧ (3 ≤ r ∧ r ≤ 5) ∧ (3 ≤ c ∧ c ≤ 5) ∧ r0 = some (.int (nI (r * c))) ∧ ∃ PB PT, w1 = WX pgC pgL stC stL PB PT BA (upd BS 5 0) u ∧ PlOk r c 1 0 0 PB PT)) := by
  refine CC.of okX3_sheet.1 (Nat.le_of_ble_eq_true rfl) (fun g M => ?_)
  show g 0 0 0 [(0, .ref 100), (1, .int x), (2, .int y)] [] (WX pgC pgL stC stL PA PS BA BS u)
  refine M.blk (is := [(.aload_n 0, 0, 0, 0), (.getfield 22, 3, 2, 0)]) (pc1 := 4) (lo1 := [(0, .ref 100), (1, .int x), (2, .int y)]) (st1 := [.ref 105]) (w1 := (WX pgC pgL stC stL PA PS BA BS u)) (by decide +kernel) rfl ?_
  refine M.blk (is := [(.iload_n 1, 1, 0, 0), (.iload_n 2, 2, 0, 0)]) (pc1 := 6) (lo1 := [(0, .ref 100), (1, .int x), (2, .int y)]) (st1 := [.int y, .int x, .ref 105]) (w1 := (WX pgC pgL stC stL PA PS BA BS u)) (by decide +kernel) rfl ?_
  refine M.callV (as := [.int x, .int y]) (st := []) (nx := 9) okX1_lay lkX3_64 (s_lay (c0 := xo) (c1 := sg 102 pgL) (c2 := ar 64 pgC) (c3 := sg 104 stL) (c4 := ar 64 stC) (PA := PA) (PS := PS) (rest := bnl BA BS) (u := u) x y) (by decide +kernel) (by decide) rfl (by decide) rfl (by decide) ⟨by decide, by decide⟩ ?_
  intro r0 w1 hq
  rcases hq with ⟨rfl, rfl, hno⟩ | ⟨rfl, r, c, hxr, hyc, hr, hc, PB, PT, rfl, hok⟩
  · show g 0 0 9 [(0, .ref 100), (1, .int x), (2, .int y)] [.int 0] (WX pgC pgL stC stL PA PS BA BS u)
    refine M.if_ne (off := 7) (tgt := 16) (nx := 12) (by decide +kernel) (fun h => absurd h (by decide)) (fun _ => ?_)
    refine M.blk (is := [(.sipush (-1002), 0, 0, (-1002))]) (pc1 := 15) (lo1 := [(0, .ref 100), (1, .int x), (2, .int y)]) (st1 := [.int (-1002)]) (w1 := (WX pgC pgL stC stL PA PS BA BS u)) (by decide +kernel) rfl ?_
    exact M.reti (nx := 16) (by decide +kernel) (Or.inl ⟨hno, rfl, rfl⟩)
  · show g 0 0 9 [(0, .ref 100), (1, .int x), (2, .int y)] [.int 1] (WX pgC pgL stC stL PB PT BA BS u)
    refine M.if_ne (off := 7) (tgt := 16) (nx := 12) (by decide +kernel) (fun _ => ?_) (fun h => absurd h (by decide))
    refine M.blk (is := [(.aload_n 0, 0, 0, 0), (.getfield 29, 3, 3, 0)]) (pc1 := 20) (lo1 := [(0, .ref 100), (1, .int x), (2, .int y)]) (st1 := [.ref 113]) (w1 := (WX pgC pgL stC stL PB PT BA BS u)) (by decide +kernel) rfl ?_
    refine M.callVv (as := []) (st := []) (nx := 23) okX0_forget lkX3_56 x_forget (by decide +kernel) (by decide) rfl (Nat.le_of_ble_eq_true rfl) rfl (by decide) ?_
    show g 0 0 23 [(0, .ref 100), (1, .int x), (2, .int y)] [] (WX pgC pgL stC stL PB PT BA (upd BS 5 0) u)
    refine M.blk (is := [(.aload_n 0, 0, 0, 0), (.getfield 22, 3, 2, 0), (.getfield 68, 1, 9, 0)]) (pc1 := 30) (lo1 := [(0, .ref 100), (1, .int x), (2, .int y)]) (st1 := [.int (PT 9)]) (w1 := (WX pgC pgL stC stL PB PT BA (upd BS 5 0) u)) (by decide +kernel) rfl ?_
    exact M.reti (nx := 31) (by decide +kernel) (Or.inr ⟨r, c, hxr, hyc, hr, hc, by rw [hok.1.2.2.1], PB, PT, rfl, hok⟩)
theorem fix_t {n f h m : Nat} (e : (f * m + h) % n = m) : fixC n f h (m + 1) = fixC n f h m + 1 := by
  show fixC n f h m + (if (f * m + h) % n = m then 1 else 0) = _
  rw [if_pos e]
theorem fix_f {n f h m : Nat} (e : ¬ (f * m + h) % n = m) : fixC n f h (m + 1) = fixC n f h m := by
  show fixC n f h m + (if (f * m + h) % n = m then 1 else 0) = _
  rw [if_neg e]; rfl
theorem clF_nI {PA : Nat → Nat → Int32} {PS : Nat → Int32} {k m : Nat} (hm : PS 9 = nI m) (h25 : m ≤ 25) (hk : k < m) : clF PA PS (nI k) = PA 5 k := by
  unfold clF
  rw [hasF_nI hm h25 hk, if_neg (by decide), nI_clamp (by omega)]
theorem x_scramble {r c f0 h0 t0 : Nat} (hgeo : GeoOk r c f0 h0 t0) (hpl : PlOk r c f0 h0 t0 PA PS) (x y z : Int32) : CC 3 mX3_scramble 0 0 [.ref 100, .int x, .int y, .int z] (WX pgC pgL stC stL PA PS BA BS u) (fun r0 w1 => (¬ mixP r (r * c) x y z ∧ r0 = some (.int (-1002)) ∧ w1 = (WX pgC pgL stC stL PA PS BA BS u)) ∨ (∃ f h t : Nat, (x = nI f ∧ y = nI h ∧ z = nI t) ∧ GeoOk r c f h t ∧ r0 = some (.int (nI (fixC (r * c) f h (r * c)))) ∧ ∃ PB PT, w1 = WX pgC pgL stC stL PB PT BA BS u ∧ PlOk r c f h t PB PT)) := by
  have h25 : r * c ≤ 25 := Nat.mul_le_mul hgeo.1.2 hgeo.2.1.2
  have h9a : 9 ≤ r * c := Nat.mul_le_mul hgeo.1.1 hgeo.2.1.1
  obtain ⟨⟨e7, e8, e9, e10, e11, e12⟩, hlay, hmx⟩ := hpl
  refine CC.of okX3_scramble.1 (Nat.le_of_ble_eq_true rfl) (fun g M => ?_)
  show g 0 0 0 [(0, .ref 100), (1, .int x), (2, .int y), (3, .int z)] [] (WX pgC pgL stC stL PA PS BA BS u)
  refine M.blk (is := [(.aload_n 0, 0, 0, 0), (.getfield 22, 3, 2, 0), (.iload_n 1, 1, 0, 0), (.iload_n 2, 2, 0, 0), (.iload_n 3, 3, 0, 0)]) (pc1 := 7) (lo1 := [(0, .ref 100), (1, .int x), (2, .int y), (3, .int z)]) (st1 := [.int z, .int y, .int x, .ref 105]) (w1 := (WX pgC pgL stC stL PA PS BA BS u)) (by decide +kernel) rfl ?_
  refine M.callV (as := [.int x, .int y, .int z]) (st := []) (nx := 10) okX1_mix lkX3_71 (s_mix (c0 := xo) (c1 := sg 102 pgL) (c2 := ar 64 pgC) (c3 := sg 104 stL) (c4 := ar 64 stC) (PA := PA) (PS := PS) (rest := bnl BA BS) (u := u) e7 e9 hgeo.1.2 ⟨by omega, h25⟩ x y z) (by decide +kernel) (by decide) rfl (by decide) rfl (by decide) ⟨by decide, by decide⟩ ?_
  intro r0 w1 hq
  rcases hq with ⟨rfl, rfl, hno⟩ | ⟨rfl, f, h, t, ⟨ex, ey, ez, hf1, hf, hg, hh, ht⟩, PB, rfl, hk, hmix⟩
  · show g 0 0 10 [(0, .ref 100), (1, .int x), (2, .int y), (3, .int z)] [.int 0] (WX pgC pgL stC stL PA PS BA BS u)
    refine M.if_ne (off := 7) (tgt := 17) (nx := 13) (by decide +kernel) (fun h => absurd h (by decide)) (fun _ => ?_)
    refine M.blk (is := [(.sipush (-1002), 0, 0, (-1002))]) (pc1 := 16) (lo1 := [(0, .ref 100), (1, .int x), (2, .int y), (3, .int z)]) (st1 := [.int (-1002)]) (w1 := (WX pgC pgL stC stL PA PS BA BS u)) (by decide +kernel) rfl ?_
    exact M.reti (nx := 17) (by decide +kernel) (Or.inl ⟨hno, rfl, rfl⟩)
  · show g 0 0 10 [(0, .ref 100), (1, .int x), (2, .int y), (3, .int z)] [.int 1] (WX pgC pgL stC stL PB (upd (upd (upd PS 10 x) 11 y) 12 z) BA BS u)
    have hok : PlOk r c f h t PB (upd (upd (upd PS 10 x) 11 y) 12 z) := ⟨⟨e7, e8, e9, ex, ey, ez⟩, ⟨fun k hk1 => by rw [hk 0 (by decide), hk 2 (by decide), hk 3 (by decide), hk 4 (by decide)]; exact hlay.1 k hk1, fun t ht => by rw [hk 1 (by decide)]; exact hlay.2 t ht⟩, hmix⟩
    have lp : ∀ k m, m + k = r * c → g 0 0 23 [(0, .ref 100), (4, .int (nI (fixC (r * c) f h m))), (5, .int (nI m))] [] (WX pgC pgL stC stL PB (upd (upd (upd PS 10 x) 11 y) 12 z) BA BS u) := by
      intro k
      induction k with
      | zero =>
        intro m hm
        have em : r * c = m := by omega
        rw [← em]
        refine M.blk (is := [(.iload 5, 5, 0, 0), (.aload_n 0, 0, 0, 0), (.getfield 22, 3, 2, 0), (.getfield 68, 1, 9, 0)]) (pc1 := 32) (lo1 := [(0, .ref 100), (4, .int (nI (fixC (r * c) f h (r * c)))), (5, .int (nI (r * c)))]) (st1 := [.int (PS 9), .int (nI (r * c))]) (w1 := (WX pgC pgL stC stL PB (upd (upd (upd PS 10 x) 11 y) 12 z) BA BS u)) (by decide +kernel) rfl ?_
        refine M.icmp_ge (off := 26) (tgt := 58) (nx := 35) (by decide +kernel) (fun z32 => ?_) (fun z32 => by exfalso; exact z32 (by rw [e9]; exact nI_le (Nat.le_refl _) (by omega)))
        refine M.blk (is := [(.iload 4, 4, 0, 0)]) (pc1 := 60) (lo1 := [(0, .ref 100), (4, .int (nI (fixC (r * c) f h (r * c)))), (5, .int (nI (r * c)))]) (st1 := [.int (nI (fixC (r * c) f h (r * c)))]) (w1 := (WX pgC pgL stC stL PB (upd (upd (upd PS 10 x) 11 y) 12 z) BA BS u)) (by decide +kernel) rfl ?_
        exact M.reti (nx := 61) (by decide +kernel) (Or.inr ⟨f, h, t, ⟨ex, ey, ez⟩, ⟨hgeo.1, hgeo.2.1, ⟨hf1, hf⟩, hg, hh, ht⟩, rfl, PB, _, rfl, hok⟩)
      | succ k ih =>
        intro m hm
        have hfl := fixC_le (r * c) f h m
        refine M.blk (is := [(.iload 5, 5, 0, 0), (.aload_n 0, 0, 0, 0), (.getfield 22, 3, 2, 0), (.getfield 68, 1, 9, 0)]) (pc1 := 32) (lo1 := [(0, .ref 100), (4, .int (nI (fixC (r * c) f h m))), (5, .int (nI m))]) (st1 := [.int (PS 9), .int (nI m)]) (w1 := (WX pgC pgL stC stL PB (upd (upd (upd PS 10 x) 11 y) 12 z) BA BS u)) (by decide +kernel) rfl ?_
        refine M.icmp_ge (off := 26) (tgt := 58) (nx := 35) (by decide +kernel) (fun z32 => by exfalso; rw [e9] at z32; exact nI_ge (show m < r * c by omega) (by omega) z32) (fun z32 => ?_)
        refine M.blk (is := [(.aload_n 0, 0, 0, 0), (.getfield 22, 3, 2, 0), (.iload 5, 5, 0, 0)]) (pc1 := 41) (lo1 := [(0, .ref 100), (4, .int (nI (fixC (r * c) f h m))), (5, .int (nI m))]) (st1 := [.int (nI m), .ref 105]) (w1 := (WX pgC pgL stC stL PB (upd (upd (upd PS 10 x) 11 y) 12 z) BA BS u)) (by decide +kernel) rfl ?_
        refine M.callVi (as := [.int (nI m)]) (st := []) (nx := 44) okX1_cellOf lkX3_75 (x_cellOf (PA := PB) (PS := (upd (upd (upd PS 10 x) 11 y) 12 z)) (nI m)) (by decide +kernel) (by decide) rfl (Nat.le_of_ble_eq_true rfl) rfl (by decide) ?_
        rw [clF_nI (m := r * c) (PS := (upd (upd (upd PS 10 x) 11 y) 12 z)) e9 h25 (show m < r * c by omega), (hmix m (by omega)).1]
        refine M.blk (is := [(.iload 5, 5, 0, 0)]) (pc1 := 46) (lo1 := [(0, .ref 100), (4, .int (nI (fixC (r * c) f h m))), (5, .int (nI m))]) (st1 := [.int (nI m), .int (nI ((f * m + h) % (r * c)))]) (w1 := (WX pgC pgL stC stL PB (upd (upd (upd PS 10 x) 11 y) 12 z) BA BS u)) (by decide +kernel) rfl ?_
        refine M.icmp_ne (off := 6) (tgt := 52) (nx := 49) (by decide +kernel) (fun z46 => ?_) (fun z46 => ?_)
        · refine M.blk (is := [(.iinc 5 1, 5, 0, 1), (.goto (-32), 23, 0, 0)]) (pc1 := 23) (lo1 := [(5, .int ((nI m) + 1)), (0, .ref 100), (4, .int (nI (fixC (r * c) f h m)))]) (st1 := []) (w1 := (WX pgC pgL stC stL PB (upd (upd (upd PS 10 x) 11 y) 12 z) BA BS u)) (by decide +kernel) rfl ?_
          refine M.lsub [1, 2, 0] (lo1 := [(0, .ref 100), (4, .int (nI (fixC (r * c) f h m))), (5, .int ((nI m) + 1))]) rfl ?_
          rw [nI_1, ← fix_f (fun e => z46 (by rw [e]))]
          exact ih (m + 1) (by omega)
        · refine M.blk (is := [(.iinc 4 1, 4, 0, 1), (.iinc 5 1, 5, 0, 1), (.goto (-32), 23, 0, 0)]) (pc1 := 23) (lo1 := [(5, .int ((nI m) + 1)), (4, .int ((nI (fixC (r * c) f h m)) + 1)), (0, .ref 100)]) (st1 := []) (w1 := (WX pgC pgL stC stL PB (upd (upd (upd PS 10 x) 11 y) 12 z) BA BS u)) (by decide +kernel) rfl ?_
          refine M.lsub [2, 1, 0] (lo1 := [(0, .ref 100), (4, .int ((nI (fixC (r * c) f h m)) + 1)), (5, .int ((nI m) + 1))]) rfl ?_
          rw [nI_1, nI_1, ← fix_t (nI_inj (Nat.lt_trans (Nat.mod_lt _ (by omega)) (by omega)) (by omega) z46)]
          exact ih (m + 1) (by omega)
    refine M.if_ne (off := 7) (tgt := 17) (nx := 13) (by decide +kernel) (fun _ => ?_) (fun h => absurd h (by decide))
    refine M.blk (is := [(.iconst 0, 0, 0, 0), (.istore 4, 4, 0, 0), (.iconst 0, 0, 0, 0), (.istore 5, 5, 0, 0)]) (pc1 := 23) (lo1 := [(5, .int 0), (4, .int 0), (0, .ref 100), (1, .int x), (2, .int y), (3, .int z)]) (st1 := []) (w1 := (WX pgC pgL stC stL PB (upd (upd (upd PS 10 x) 11 y) 12 z) BA BS u)) (by decide +kernel) rfl ?_
    refine M.lsub [2, 1, 0] (lo1 := [(0, .ref 100), (4, .int 0), (5, .int 0)]) rfl ?_
    exact lp (r * c) 0 (by omega)
theorem parts_out {k : Int32} (h : k.toInt < 0 ∨ 0 + (([28, 28, 31] : List Nat).length : Int) ≤ k.toInt) : partsI k = 0 := by
  have key : ∀ v : Int32, 0 ≤ v.toInt → v.toInt ≤ 2 → ¬ k = v := by
    rintro v h1 h2 rfl
    simp only [List.length_cons, List.length_nil] at h
    omega
  unfold partsI
  rw [if_neg (key 0 (by decide) (by decide)), if_neg (key 1 (by decide) (by decide)), if_neg (key 2 (by decide) (by decide))]
theorem s_partsOf (w0 : Wd) (k : Int32) : CC 0 mX3_partsOf 0 0 [.int k] w0 (Rt (partsI k) w0) := by
  refine CC.of okX3_partsOf.1 (Nat.le_of_ble_eq_true rfl) (fun g M => ?_)
  show g 0 0 0 [(0, .int k)] [] w0
  refine M.blk (is := [(.iload_n 0, 0, 0, 0)]) (pc1 := 1) (lo1 := [(0, .int k)]) (st1 := [.int k]) (w1 := w0) (by decide +kernel) rfl ?_
  refine M.tsw (dflt := 34) (a := 0) (b := 2) (offs := #[27, 27, 30]) (len := 27) (tg := [28, 28, 31]) (dt := 35) (by decide +kernel) (fun j t hj hx1 => ?_) (fun hx1 => ?_)
  · match j, hj, hx1 with
    | 0, hj, hx1 =>
      cases hj
      have hx1 : k = 0 := i32_of hx1 (by decide)
      subst hx1
      refine M.blk (is := [(.bipush 32, 0, 0, 32)]) (pc1 := 30) (lo1 := [(0, .int 0)]) (st1 := [.int 32]) (w1 := w0) (by decide +kernel) rfl ?_
      exact M.reti (nx := 31) (by decide +kernel) ⟨rfl, rfl⟩
    | 1, hj, hx1 =>
      cases hj
      have hx1 : k = 1 := i32_of hx1 (by decide)
      subst hx1
      refine M.blk (is := [(.bipush 32, 0, 0, 32)]) (pc1 := 30) (lo1 := [(0, .int 1)]) (st1 := [.int 32]) (w1 := w0) (by decide +kernel) rfl ?_
      exact M.reti (nx := 31) (by decide +kernel) ⟨rfl, rfl⟩
    | 2, hj, hx1 =>
      cases hj
      have hx1 : k = 2 := i32_of hx1 (by decide)
      subst hx1
      refine M.blk (is := [(.sipush 128, 0, 0, 128)]) (pc1 := 34) (lo1 := [(0, .int 2)]) (st1 := [.int 128]) (w1 := w0) (by decide +kernel) rfl ?_
      exact M.reti (nx := 35) (by decide +kernel) ⟨rfl, rfl⟩
    | j + 3, hj, _ => exact absurd hj (by simp)
  · refine M.blk (is := [(.iconst 0, 0, 0, 0)]) (pc1 := 36) (lo1 := [(0, .int k)]) (st1 := [.int 0]) (w1 := w0) (by decide +kernel) rfl ?_
    exact M.reti (nx := 37) (by decide +kernel) ⟨by rw [parts_out hx1], rfl⟩
theorem s_sightsDue (w0 : Wd) (th : Nat) : CC 0 mX3_sightsDue 0 0 [.int (nI th)] w0 (Rt (dueA th 16) w0) := by
  refine CC.of okX3_sightsDue.1 (Nat.le_of_ble_eq_true rfl) (fun g M => ?_)
  have lp : ∀ m k, k + m = 16 → g 0 0 4 [(0, .int (nI th)), (1, .int (dueA th k)), (2, .int (nI k))] [] w0 := by
    intro m
    induction m with
    | zero =>
      intro k hk
      have ek : k = 16 := by omega
      subst ek
      refine M.blk (is := [(.iload_n 2, 2, 0, 0), (.bipush 16, 0, 0, 16)]) (pc1 := 7) (lo1 := [(0, .int (nI th)), (1, .int (dueA th 16)), (2, .int (nI 16))]) (st1 := [.int 16, .int (nI 16)]) (w1 := w0) (by decide +kernel) rfl ?_
      refine M.icmp_ge (off := 30) (tgt := 37) (nx := 10) (by decide +kernel) (fun z7 => ?_) (fun z7 => by exfalso; exact z7 (by decide))
      refine M.blk (is := [(.iload_n 1, 1, 0, 0)]) (pc1 := 38) (lo1 := [(0, .int (nI th)), (1, .int (dueA th 16)), (2, .int (nI 16))]) (st1 := [.int (dueA th 16)]) (w1 := w0) (by decide +kernel) rfl ?_
      exact M.reti (nx := 39) (by decide +kernel) ⟨rfl, rfl⟩
    | succ m ih =>
      intro k hk
      refine M.blk (is := [(.iload_n 2, 2, 0, 0), (.bipush 16, 0, 0, 16)]) (pc1 := 7) (lo1 := [(0, .int (nI th)), (1, .int (dueA th k)), (2, .int (nI k))]) (st1 := [.int 16, .int (nI k)]) (w1 := w0) (by decide +kernel) rfl ?_
      refine M.icmp_ge (off := 30) (tgt := 37) (nx := 10) (by decide +kernel) (fun z7 => by exfalso; exact nI_ge (a := k) (b := 16) (by omega) (by decide) z7) (fun z7 => ?_)
      refine M.blk (is := [(.iload_n 2, 2, 0, 0), (.iload_n 0, 0, 0, 0), (.iconst (-1), 0, 0, (-1)), (.ixor, 0, 0, 0), (.iand, 0, 0, 0)]) (pc1 := 15) (lo1 := [(0, .int (nI th)), (1, .int (dueA th k)), (2, .int (nI k))]) (st1 := [.int ((nI k) &&& ((nI th) ^^^ (-1)))]) (w1 := w0) (by decide +kernel) rfl ?_
      refine M.if_ne (off := 16) (tgt := 31) (nx := 18) (by decide +kernel) (fun z15 => ?_) (fun z15 => ?_)
      · refine M.blk (is := [(.iinc 2 1, 2, 0, 1), (.goto (-30), 4, 0, 0)]) (pc1 := 4) (lo1 := [(2, .int ((nI k) + 1)), (0, .int (nI th)), (1, .int (dueA th k))]) (st1 := []) (w1 := w0) (by decide +kernel) rfl ?_
        refine M.lsub [1, 2, 0] (lo1 := [(0, .int (nI th)), (1, .int (dueA th k)), (2, .int ((nI k) + 1))]) rfl ?_
        rw [nI_1]
        have e := ih (k + 1) (by omega)
        unfold dueA at e
        rw [if_neg z15] at e
        exact e
      · refine M.blk (is := [(.iload_n 1, 1, 0, 0), (.iconst 1, 0, 0, 1), (.iload_n 2, 2, 0, 0), (.ishl, 0, 0, 0), (.iconst 1, 0, 0, 1), (.bipush 16, 0, 0, 16), (.iload_n 2, 2, 0, 0), (.iadd, 0, 0, 0), (.ishl, 0, 0, 0), (.ior, 0, 0, 0), (.ior, 0, 0, 0), (.istore_n 1, 1, 0, 0), (.iinc 2 1, 2, 0, 1), (.goto (-30), 4, 0, 0)]) (pc1 := 4) (lo1 := [(2, .int ((nI k) + 1)), (1, .int ((dueA th k) ||| (((1 : Int32) <<< ((nI k) &&& 31)) ||| ((1 : Int32) <<< ((16 + (nI k)) &&& 31))))), (0, .int (nI th))]) (st1 := []) (w1 := w0) (by decide +kernel) rfl ?_
        refine M.lsub [2, 1, 0] (lo1 := [(0, .int (nI th)), (1, .int ((dueA th k) ||| (((1 : Int32) <<< ((nI k) &&& 31)) ||| ((1 : Int32) <<< ((16 + (nI k)) &&& 31))))), (2, .int ((nI k) + 1))]) rfl ?_
        rw [nI_1]
        have e := ih (k + 1) (by omega)
        unfold dueA at e
        rw [if_pos z15] at e
        exact e
  show g 0 0 0 [(0, .int (nI th))] [] w0
  refine M.blk (is := [(.iconst 0, 0, 0, 0), (.istore_n 1, 1, 0, 0), (.iconst 0, 0, 0, 0), (.istore_n 2, 2, 0, 0)]) (pc1 := 4) (lo1 := [(2, .int 0), (1, .int 0), (0, .int (nI th))]) (st1 := []) (w1 := w0) (by decide +kernel) rfl ?_
  refine M.lsub [2, 1, 0] (lo1 := [(0, .int (nI th)), (1, .int 0), (2, .int 0)]) rfl ?_
  exact lp 16 0 (by omega)
end SHEET
