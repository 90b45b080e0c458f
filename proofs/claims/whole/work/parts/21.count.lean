section COUNT
variable {pgC : Nat → Int32} {pgL : Int32} {stC : Nat → Int32} {stL : Int32} {PA : Nat → Nat → Int32} {PS : Nat → Int32} {BA : Nat → Nat → Int32} {BS : Nat → Int32} {u : List Cl}
def usI (x n : Int32) : Int32 := (x.toUInt32 >>> (n.toUInt32 &&& Int32.toUInt32 31)).toInt32
def bc1 (x : Int32) : Int32 := x - (usI x 1 &&& 1431655765)
def bc2 (x : Int32) : Int32 := (x &&& 858993459) + (usI x 2 &&& 858993459)
def bc3 (x : Int32) : Int32 := (x + usI x 4) &&& 252645135
def bcF (x : Int32) : Int32 := (bc3 (bc2 (bc1 x)) + usI (bc3 (bc2 (bc1 x))) 8 + usI (bc3 (bc2 (bc1 x)) + usI (bc3 (bc2 (bc1 x))) 8) 16) &&& 63
def cnT (c t m : Nat) : Nat := match m with
  | 0 => 0
  | m + 1 => cnT c t m + (if tyN c m = t then 1 else 0)
theorem cnT_le (c t m : Nat) : cnT c t m ≤ m := by
  induction m with
  | zero => exact Nat.le_refl _
  | succ m ih => unfold cnT; split <;> omega
theorem bc_ok : ∀ (r c : Fin 6) (t : Fin 5), 3 ≤ r.val → 3 ≤ c.val → bcF (nI (mkT c.val t.val (r.val * c.val))) = nI (cnT c.val t.val (r.val * c.val)) := by decide +kernel
def figT (s : Int32) : Nat := (s - 48).toNatClampNeg
def opN (r c : Nat) (C : Nat → Int32) (j : Nat) : Nat := match j with
  | 0 => 0
  | j + 1 => opN r c C j + (if figF (C j) = 0 then r * c else cnT c (figT (C j)) (r * c))
theorem opN_le {r c : Nat} (h25 : r * c ≤ 25) (C : Nat → Int32) (j : Nat) : opN r c C j ≤ 25 * j := by
  induction j with
  | zero => exact Nat.le_refl _
  | succ j ih =>
    unfold opN
    have := cnT_le c (figT (C j)) (r * c)
    split <;> omega
def boN (n : Nat) : Nat := 33 * n + 31 * (n / 5)
def whC (r c : Nat) (C : Nat → Int32) (sl m : Nat) : Nat := match m with
  | 0 => 0
  | m + 1 => whC r c C sl m + (if (smS 3 0 (tauG r c m) C sl).2.2.1 &&& dueA (thr r c m) 16 = dueA (thr r c m) 16 then 1 else 0)
theorem fig_idx {s : Int32} (h : ¬ figF s = 0) : s - 48 = nI (figT s) ∧ figT s < 5 := by
  unfold figF at h
  split at h
  · exact absurd rfl h
  · rename_i h1
    split at h
    · exact absurd rfl h
    · rename_i h2
      unfold figT
      have e1 : (48 : Int32).toInt = 48 := by decide
      have e2 : (53 : Int32).toInt = 53 := by decide
      rw [Int32.lt_iff_toInt_lt] at h1
      rw [Int32.le_iff_toInt_le] at h2
      have e3 : (s - 48).toInt = s.toInt - 48 := by
        rw [Int32.toInt_sub, e1]
        exact Int.bmod_eq_of_le (by omega) (by omega)
      refine idx_of (n := 5) ?_ ?_ (by decide)
      · rw [Int32.lt_iff_toInt_lt, e3]
        have : (0 : Int32).toInt = 0 := by decide
        omega
      · rw [Int32.le_iff_toInt_le, e3]
        have : (nI 5).toInt = 5 := by decide
        omega
theorem ct_nI {r c f h t : Nat} {PA : Nat → Nat → Int32} {PS : Nat → Int32} (hgeo : GeoOk r c f h t) (hp : PlOk r c f h t PA PS) {s : Int32} (hs : ¬ figF s = 0) : ctF PA (s - 48) = nI (mkT c (figT s) (r * c)) ∧ bcF (ctF PA (s - 48)) = nI (cnT c (figT s) (r * c)) := by
  obtain ⟨h1, h2⟩ := fig_idx hs
  have e : ctF PA (s - 48) = nI (mkT c (figT s) (r * c)) := by
    rw [h1]
    unfold ctF
    rw [if_neg (nI_pos (by omega)), if_neg (show ¬ (5 : Int32) ≤ nI (figT s) from nI_ge (b := 5) h2 (by decide)), nI_clamp (by omega)]
    exact hp.2.1.2 _ h2
  refine ⟨e, ?_⟩
  rw [e]
  exact bc_ok ⟨r, by have := hgeo.1.2; omega⟩ ⟨c, by have := hgeo.2.1.2; omega⟩ ⟨figT s, h2⟩ hgeo.1.1 hgeo.2.1.1
theorem s_bitCount (w0 : Wd) (x : Int32) : CC 0 mJ6_bitCount_0f7a4 0 0 [.int x] w0 (Rt (bcF x) w0) := by
  refine CC.of okJ6_bitCount_0f7a4.1 (Nat.le_of_ble_eq_true rfl) (fun g M => ?_)
  show g 0 0 0 [(0, .int x)] [] w0
  refine M.blk (is := [(.iload_n 0, 0, 0, 0), (.iload_n 0, 0, 0, 0), (.iconst 1, 0, 0, 1), (.iushr, 0, 0, 0)]) (pc1 := 4) (lo1 := [(0, .int x)]) (st1 := [.int ((x.toUInt32 >>> ((1 : Int32).toUInt32 &&& Int32.toUInt32 31)).toInt32), .int x]) (w1 := w0) (by decide +kernel) rfl ?_
  refine M.ldi (v := 1431655765) (idx := 265) (nx := 7) (by decide +kernel) (lw_in 456 (by decide +kernel) (by decide +kernel)) ?_
  refine M.blk (is := [(.iand, 0, 0, 0), (.isub, 0, 0, 0), (.istore_n 0, 0, 0, 0)]) (pc1 := 10) (lo1 := [(0, .int (x - (((x.toUInt32 >>> ((1 : Int32).toUInt32 &&& Int32.toUInt32 31)).toInt32) &&& 1431655765)))]) (st1 := []) (w1 := w0) (by decide +kernel) rfl ?_
  have ha : x - (((x.toUInt32 >>> ((1 : Int32).toUInt32 &&& Int32.toUInt32 31)).toInt32) &&& 1431655765) = bc1 x := rfl
  rw [ha]
  generalize ea : bc1 x = a
  refine M.blk (is := [(.iload_n 0, 0, 0, 0)]) (pc1 := 11) (lo1 := [(0, .int a)]) (st1 := [.int a]) (w1 := w0) (by decide +kernel) rfl ?_
  refine M.ldi (v := 858993459) (idx := 266) (nx := 14) (by decide +kernel) (lw_in 457 (by decide +kernel) (by decide +kernel)) ?_
  refine M.blk (is := [(.iand, 0, 0, 0), (.iload_n 0, 0, 0, 0), (.iconst 2, 0, 0, 2), (.iushr, 0, 0, 0)]) (pc1 := 18) (lo1 := [(0, .int a)]) (st1 := [.int ((a.toUInt32 >>> ((2 : Int32).toUInt32 &&& Int32.toUInt32 31)).toInt32), .int (a &&& 858993459)]) (w1 := w0) (by decide +kernel) rfl ?_
  refine M.ldi (v := 858993459) (idx := 266) (nx := 21) (by decide +kernel) (lw_in 457 (by decide +kernel) (by decide +kernel)) ?_
  refine M.blk (is := [(.iand, 0, 0, 0), (.iadd, 0, 0, 0), (.istore_n 0, 0, 0, 0)]) (pc1 := 24) (lo1 := [(0, .int ((a &&& 858993459) + (((a.toUInt32 >>> ((2 : Int32).toUInt32 &&& Int32.toUInt32 31)).toInt32) &&& 858993459)))]) (st1 := []) (w1 := w0) (by decide +kernel) rfl ?_
  have hb : (a &&& 858993459) + (((a.toUInt32 >>> ((2 : Int32).toUInt32 &&& Int32.toUInt32 31)).toInt32) &&& 858993459) = bc2 a := rfl
  rw [hb]
  generalize eb : bc2 a = b
  refine M.blk (is := [(.iload_n 0, 0, 0, 0), (.iload_n 0, 0, 0, 0), (.iconst 4, 0, 0, 4), (.iushr, 0, 0, 0), (.iadd, 0, 0, 0)]) (pc1 := 29) (lo1 := [(0, .int b)]) (st1 := [.int (b + ((b.toUInt32 >>> ((4 : Int32).toUInt32 &&& Int32.toUInt32 31)).toInt32))]) (w1 := w0) (by decide +kernel) rfl ?_
  refine M.ldi (v := 252645135) (idx := 267) (nx := 32) (by decide +kernel) (lw_in 458 (by decide +kernel) (by decide +kernel)) ?_
  refine M.blk (is := [(.iand, 0, 0, 0), (.istore_n 0, 0, 0, 0)]) (pc1 := 34) (lo1 := [(0, .int ((b + ((b.toUInt32 >>> ((4 : Int32).toUInt32 &&& Int32.toUInt32 31)).toInt32)) &&& 252645135))]) (st1 := []) (w1 := w0) (by decide +kernel) rfl ?_
  have hc : (b + ((b.toUInt32 >>> ((4 : Int32).toUInt32 &&& Int32.toUInt32 31)).toInt32)) &&& 252645135 = bc3 b := rfl
  rw [hc]
  generalize ec : bc3 b = c
  refine M.blk (is := [(.iload_n 0, 0, 0, 0), (.iload_n 0, 0, 0, 0), (.bipush 8, 0, 0, 8), (.iushr, 0, 0, 0), (.iadd, 0, 0, 0), (.istore_n 0, 0, 0, 0)]) (pc1 := 41) (lo1 := [(0, .int (c + ((c.toUInt32 >>> ((8 : Int32).toUInt32 &&& Int32.toUInt32 31)).toInt32)))]) (st1 := []) (w1 := w0) (by decide +kernel) rfl ?_
  have hd : c + ((c.toUInt32 >>> ((8 : Int32).toUInt32 &&& Int32.toUInt32 31)).toInt32) = c + usI c 8 := rfl
  rw [hd]
  generalize ed : c + usI c 8 = d
  refine M.blk (is := [(.iload_n 0, 0, 0, 0), (.iload_n 0, 0, 0, 0), (.bipush 16, 0, 0, 16), (.iushr, 0, 0, 0), (.iadd, 0, 0, 0), (.istore_n 0, 0, 0, 0)]) (pc1 := 48) (lo1 := [(0, .int (d + ((d.toUInt32 >>> ((16 : Int32).toUInt32 &&& Int32.toUInt32 31)).toInt32)))]) (st1 := []) (w1 := w0) (by decide +kernel) rfl ?_
  have he : d + ((d.toUInt32 >>> ((16 : Int32).toUInt32 &&& Int32.toUInt32 31)).toInt32) = d + usI d 16 := rfl
  rw [he]
  generalize ee : d + usI d 16 = e
  refine M.blk (is := [(.iload_n 0, 0, 0, 0), (.bipush 63, 0, 0, 63), (.iand, 0, 0, 0)]) (pc1 := 52) (lo1 := [(0, .int e)]) (st1 := [.int (e &&& 63)]) (w1 := w0) (by decide +kernel) rfl ?_
  exact M.reti (nx := 53) (by decide +kernel) ⟨by subst ee ed ec eb ea; rfl, rfl⟩
theorem x_ops {sl : Nat} (hsl : sl ≤ 64) {r c f h t : Nat} (hgeo : GeoOk r c f h t) (hpl : PlOk r c f h t PA PS) : CC 1 mX3_ops 0 0 [.ref 100] (WX pgC pgL stC (nI sl) PA PS BA BS u) (Rt (nI (opN r c stC sl)) (WX pgC pgL stC (nI sl) PA PS BA BS u)) := by
  have h25 : r * c ≤ 25 := Nat.mul_le_mul hgeo.1.2 hgeo.2.1.2
  have h9a : 9 ≤ r * c := Nat.mul_le_mul hgeo.1.1 hgeo.2.1.1
  refine CC.of okX3_ops.1 (Nat.le_of_ble_eq_true rfl) (fun g M => ?_)
  have lp : ∀ m j, j + m = sl → g 0 0 4 [(0, .ref 100), (1, .int (nI (opN r c stC j))), (2, .int (nI j))] [] (WX pgC pgL stC (nI sl) PA PS BA BS u) := by
    intro m
    induction m with
    | zero =>
      intro j hj
      have ej : sl = j := by omega
      subst ej
      refine M.blk (is := [(.iload_n 2, 2, 0, 0), (.aload_n 0, 0, 0, 0), (.getfield 16, 3, 1, 0), (.getfield 33, 2, 1, 0)]) (pc1 := 12) (lo1 := [(0, .ref 100), (1, .int (nI (opN r c stC sl))), (2, .int (nI sl))]) (st1 := [.int (nI sl), .int (nI sl)]) (w1 := (WX pgC pgL stC (nI sl) PA PS BA BS u)) (by decide +kernel) rfl ?_
      refine M.icmp_ge (off := 52) (tgt := 64) (nx := 15) (by decide +kernel) (fun z12 => ?_) (fun z12 => by exfalso; exact z12 (nI_le (Nat.le_refl _) (by omega)))
      refine M.blk (is := [(.iload_n 1, 1, 0, 0)]) (pc1 := 65) (lo1 := [(0, .ref 100), (1, .int (nI (opN r c stC sl))), (2, .int (nI sl))]) (st1 := [.int (nI (opN r c stC sl))]) (w1 := (WX pgC pgL stC (nI sl) PA PS BA BS u)) (by decide +kernel) rfl ?_
      exact M.reti (nx := 66) (by decide +kernel) ⟨rfl, rfl⟩
    | succ m ih =>
      intro j hj
      refine M.blk (is := [(.iload_n 2, 2, 0, 0), (.aload_n 0, 0, 0, 0), (.getfield 16, 3, 1, 0), (.getfield 33, 2, 1, 0)]) (pc1 := 12) (lo1 := [(0, .ref 100), (1, .int (nI (opN r c stC j))), (2, .int (nI j))]) (st1 := [.int (nI sl), .int (nI j)]) (w1 := (WX pgC pgL stC (nI sl) PA PS BA BS u)) (by decide +kernel) rfl ?_
      refine M.icmp_ge (off := 52) (tgt := 64) (nx := 15) (by decide +kernel) (fun z12 => by exfalso; exact nI_ge (show j < sl by omega) (by omega) z12) (fun z12 => ?_)
      refine M.blk (is := [(.aload_n 0, 0, 0, 0), (.getfield 16, 3, 1, 0), (.iload_n 2, 2, 0, 0)]) (pc1 := 20) (lo1 := [(0, .ref 100), (1, .int (nI (opN r c stC j))), (2, .int (nI j))]) (st1 := [.int (nI j), .ref 103]) (w1 := (WX pgC pgL stC (nI sl) PA PS BA BS u)) (by decide +kernel) rfl ?_
      refine M.callVi (as := [.int (nI j)]) (st := []) (nx := 23) okX2_get lkX3_44 (x_get3 (nI j)) (by decide +kernel) (by decide) rfl (Nat.le_of_ble_eq_true rfl) rfl (by decide) ?_
      rw [sGet_nI hsl (show j < sl by omega)]
      refine M.blk (is := [(.istore_n 3, 3, 0, 0), (.iload_n 1, 1, 0, 0), (.iload_n 3, 3, 0, 0)]) (pc1 := 26) (lo1 := [(3, .int (stC j)), (0, .ref 100), (1, .int (nI (opN r c stC j))), (2, .int (nI j))]) (st1 := [.int (stC j), .int (nI (opN r c stC j))]) (w1 := (WX pgC pgL stC (nI sl) PA PS BA BS u)) (by decide +kernel) rfl ?_
      refine M.callSi (as := [.int (stC j)]) (st := [.int (nI (opN r c stC j))]) (nx := 29) okX3_isFigure lkX3_185 (s_isFigure (WX pgC pgL stC (nI sl) PA PS BA BS u) (stC j)) (by decide +kernel) (by decide) rfl (Nat.le_of_ble_eq_true rfl) ?_
      have j29 : ∀ b29 : Int32, b29 = (if figF (stC j) = 0 then (PS 9 : Int32) else bcF (ctF PA ((stC j) - 48))) → g 0 0 56 [(3, .int (stC j)), (0, .ref 100), (1, .int (nI (opN r c stC j))), (2, .int (nI j))] [.int b29, .int (nI (opN r c stC j))] (WX pgC pgL stC (nI sl) PA PS BA BS u) := by
        intro b29 hb29
        refine M.blk (is := [(.iadd, 0, 0, 0), (.istore_n 1, 1, 0, 0), (.iinc 2 1, 2, 0, 1), (.goto (-57), 4, 0, 0)]) (pc1 := 4) (lo1 := [(2, .int ((nI j) + 1)), (1, .int ((nI (opN r c stC j)) + b29)), (3, .int (stC j)), (0, .ref 100)]) (st1 := []) (w1 := (WX pgC pgL stC (nI sl) PA PS BA BS u)) (by decide +kernel) rfl ?_
        refine M.lsub [3, 1, 0] (lo1 := [(0, .ref 100), (1, .int ((nI (opN r c stC j)) + b29)), (2, .int ((nI j) + 1))]) rfl ?_
        have e := ih (j + 1) (by omega)
        rw [show opN r c stC (j + 1) = opN r c stC j + (if figF (stC j) = 0 then r * c else cnT c (figT (stC j)) (r * c)) from rfl] at e
        have eb : b29 = nI (if figF (stC j) = 0 then r * c else cnT c (figT (stC j)) (r * c)) := by
          rw [hb29]
          by_cases hf : figF (stC j) = 0
          · rw [if_pos hf, if_pos hf, hpl.1.2.2.1]
          · rw [if_neg hf, if_neg hf, (ct_nI hgeo hpl hf).2]
        rw [nI_1, eb, nI_add]
        exact e
      refine M.if_eq (off := 20) (tgt := 49) (nx := 32) (by decide +kernel) (fun z29 => ?_) (fun z29 => ?_)
      · refine M.blk (is := [(.aload_n 0, 0, 0, 0), (.getfield 22, 3, 2, 0), (.getfield 68, 1, 9, 0)]) (pc1 := 56) (lo1 := [(3, .int (stC j)), (0, .ref 100), (1, .int (nI (opN r c stC j))), (2, .int (nI j))]) (st1 := [.int (PS 9), .int (nI (opN r c stC j))]) (w1 := (WX pgC pgL stC (nI sl) PA PS BA BS u)) (by decide +kernel) rfl ?_
        exact j29 _ (if_pos z29).symm
      · refine M.blk (is := [(.aload_n 0, 0, 0, 0), (.getfield 22, 3, 2, 0), (.iload_n 3, 3, 0, 0), (.bipush 48, 0, 0, 48), (.isub, 0, 0, 0)]) (pc1 := 40) (lo1 := [(3, .int (stC j)), (0, .ref 100), (1, .int (nI (opN r c stC j))), (2, .int (nI j))]) (st1 := [.int ((stC j) - 48), .ref 105, .int (nI (opN r c stC j))]) (w1 := (WX pgC pgL stC (nI sl) PA PS BA BS u)) (by decide +kernel) rfl ?_
        refine M.callVi (as := [.int ((stC j) - 48)]) (st := [.int (nI (opN r c stC j))]) (nx := 43) okX1_cellsOfType lkX3_212 (x_cellsOfType ((stC j) - 48)) (by decide +kernel) (by decide) rfl (Nat.le_of_ble_eq_true rfl) rfl (by decide) ?_
        refine M.callSi (as := [.int (ctF PA ((stC j) - 48))]) (st := [.int (nI (opN r c stC j))]) (nx := 46) okJ6_bitCount_0f7a4 lkX3_215 (s_bitCount (WX pgC pgL stC (nI sl) PA PS BA BS u) (ctF PA ((stC j) - 48))) (by decide +kernel) (by decide) rfl (Nat.le_of_ble_eq_true rfl) ?_
        refine M.blk (is := [(.goto 10, 56, 0, 0)]) (pc1 := 56) (lo1 := [(3, .int (stC j)), (0, .ref 100), (1, .int (nI (opN r c stC j))), (2, .int (nI j))]) (st1 := [.int (bcF (ctF PA ((stC j) - 48))), .int (nI (opN r c stC j))]) (w1 := (WX pgC pgL stC (nI sl) PA PS BA BS u)) (by decide +kernel) rfl ?_
        exact j29 _ (if_neg z29).symm
  show g 0 0 0 [(0, .ref 100)] [] (WX pgC pgL stC (nI sl) PA PS BA BS u)
  refine M.blk (is := [(.iconst 0, 0, 0, 0), (.istore_n 1, 1, 0, 0), (.iconst 0, 0, 0, 0), (.istore_n 2, 2, 0, 0)]) (pc1 := 4) (lo1 := [(2, .int 0), (1, .int 0), (0, .ref 100)]) (st1 := []) (w1 := (WX pgC pgL stC (nI sl) PA PS BA BS u)) (by decide +kernel) rfl ?_
  refine M.lsub [2, 1, 0] (lo1 := [(0, .ref 100), (1, .int 0), (2, .int 0)]) rfl ?_
  exact lp sl 0 (by omega)
theorem bo_nI {n : Nat} (h : n ≤ 25) : (33 : Int32) * nI n + 31 * (nI n / 5) = nI (boN n) := by
  rw [show nI n / 5 = nI (n / 5) from pk_div (a := n) (d := 5) (by omega) (by decide) (by decide), show (33 : Int32) = nI 33 from rfl, show (31 : Int32) = nI 31 from rfl, pk_mul, pk_mul, nI_add]
  rfl
theorem x_bound {sl : Nat} {r c f h t : Nat} (hgeo : GeoOk r c f h t) (hpl : PlOk r c f h t PA PS) : CC 0 mX3_bound 0 0 [.ref 100] (WX pgC pgL stC (nI sl) PA PS BA BS u) (Rt (nI (boN (r * c))) (WX pgC pgL stC (nI sl) PA PS BA BS u)) := by
  have h25 : r * c ≤ 25 := Nat.mul_le_mul hgeo.1.2 hgeo.2.1.2
  have h9a : 9 ≤ r * c := Nat.mul_le_mul hgeo.1.1 hgeo.2.1.1
  refine CC.of okX3_bound.1 (Nat.le_of_ble_eq_true rfl) (fun g M => ?_)
  show g 0 0 0 [(0, .ref 100)] [] (WX pgC pgL stC (nI sl) PA PS BA BS u)
  refine M.blk (is := [(.bipush 33, 0, 0, 33), (.aload_n 0, 0, 0, 0), (.getfield 22, 3, 2, 0), (.getfield 68, 1, 9, 0), (.imul, 0, 0, 0), (.bipush 31, 0, 0, 31), (.aload_n 0, 0, 0, 0), (.getfield 22, 3, 2, 0), (.getfield 68, 1, 9, 0), (.iconst 5, 0, 0, 5)]) (pc1 := 20) (lo1 := [(0, .ref 100)]) (st1 := [.int 5, .int (PS 9), .int 31, .int (33 * (PS 9))]) (w1 := (WX pgC pgL stC (nI sl) PA PS BA BS u)) (by decide +kernel) rfl ?_
  refine M.idv (nx := 21) (by decide +kernel) (by decide) ?_
  refine M.blk (is := [(.imul, 0, 0, 0), (.iadd, 0, 0, 0)]) (pc1 := 23) (lo1 := [(0, .ref 100)]) (st1 := [.int ((33 * (PS 9)) + (31 * ((PS 9) / 5)))]) (w1 := (WX pgC pgL stC (nI sl) PA PS BA BS u)) (by decide +kernel) rfl ?_
  exact M.reti (nx := 24) (by decide +kernel) ⟨by rw [hpl.1.2.2.1, bo_nI h25], rfl⟩
theorem x_lowered {sl : Nat} (hsl : sl ≤ 64) {r c f h t : Nat} (hgeo : GeoOk r c f h t) (hpl : PlOk r c f h t PA PS) {a : Nat} (ha : a < 2147483648) : CC 2 mX3_lowered 0 0 [.ref 100, .int (nI a)] (WX pgC pgL stC (nI sl) PA PS BA BS u) (Rt (nI (a / (Nat.gcd (boN (r * c)) (opN r c stC sl)))) (WX pgC pgL stC (nI sl) PA PS BA BS u)) := by
  have h25 : r * c ≤ 25 := Nat.mul_le_mul hgeo.1.2 hgeo.2.1.2
  have h9a : 9 ≤ r * c := Nat.mul_le_mul hgeo.1.1 hgeo.2.1.1
  have hop := opN_le h25 stC sl
  have hbo : 0 < boN (r * c) ∧ boN (r * c) < 2147483648 := by unfold boN; omega
  have hg1 : 0 < Nat.gcd (boN (r * c)) (opN r c stC sl) := Nat.gcd_pos_of_pos_left _ hbo.1
  have hg2 : Nat.gcd (boN (r * c)) (opN r c stC sl) ≤ boN (r * c) := Nat.gcd_le_left _ hbo.1
  refine CC.of okX3_lowered.1 (Nat.le_of_ble_eq_true rfl) (fun g M => ?_)
  show g 0 0 0 [(0, .ref 100), (1, .int (nI a))] [] (WX pgC pgL stC (nI sl) PA PS BA BS u)
  refine M.blk (is := [(.aload_n 0, 0, 0, 0)]) (pc1 := 1) (lo1 := [(0, .ref 100), (1, .int (nI a))]) (st1 := [.ref 100]) (w1 := (WX pgC pgL stC (nI sl) PA PS BA BS u)) (by decide +kernel) rfl ?_
  refine M.callVi (as := []) (st := []) (nx := 4) okX3_bound lkX3_145 (x_bound hgeo hpl) (by decide +kernel) (by decide) rfl (Nat.le_of_ble_eq_true rfl) rfl (by decide) ?_
  refine M.blk (is := [(.aload_n 0, 0, 0, 0)]) (pc1 := 5) (lo1 := [(0, .ref 100), (1, .int (nI a))]) (st1 := [.ref 100, .int (nI (boN (r * c)))]) (w1 := (WX pgC pgL stC (nI sl) PA PS BA BS u)) (by decide +kernel) rfl ?_
  refine M.callVi (as := []) (st := [.int (nI (boN (r * c)))]) (nx := 8) okX3_ops lkX3_139 (x_ops hsl hgeo hpl) (by decide +kernel) (by decide) rfl (Nat.le_of_ble_eq_true rfl) rfl (by decide) ?_
  refine M.callSi (as := [.int (nI (boN (r * c))), .int (nI (opN r c stC sl))]) (st := []) (nx := 11) okX3_commonDivisor lkX3_218 (s_commonDivisor (WX pgC pgL stC (nI sl) PA PS BA BS u) (a := boN (r * c)) (b := opN r c stC sl) hbo.2 (by omega)) (by decide +kernel) (by decide) rfl (Nat.le_of_ble_eq_true rfl) ?_
  refine M.blk (is := [(.istore_n 2, 2, 0, 0), (.iload_n 2, 2, 0, 0), (.iconst 1, 0, 0, 1)]) (pc1 := 14) (lo1 := [(2, .int (nI (Nat.gcd (boN (r * c)) (opN r c stC sl)))), (0, .ref 100), (1, .int (nI a))]) (st1 := [.int 1, .int (nI (Nat.gcd (boN (r * c)) (opN r c stC sl)))]) (w1 := (WX pgC pgL stC (nI sl) PA PS BA BS u)) (by decide +kernel) rfl ?_
  refine M.icmp_ge (off := 7) (tgt := 21) (nx := 17) (by decide +kernel) (fun z14 => ?_) (fun z14 => by exfalso; exact z14 (nI_le (a := 1) hg1 (by omega)))
  refine M.blk (is := [(.iload_n 1, 1, 0, 0), (.iload_n 2, 2, 0, 0)]) (pc1 := 23) (lo1 := [(2, .int (nI (Nat.gcd (boN (r * c)) (opN r c stC sl)))), (0, .ref 100), (1, .int (nI a))]) (st1 := [.int (nI (Nat.gcd (boN (r * c)) (opN r c stC sl))), .int (nI a)]) (w1 := (WX pgC pgL stC (nI sl) PA PS BA BS u)) (by decide +kernel) rfl ?_
  refine M.idv (nx := 24) (by decide +kernel) (nI_ne0 hg1 (by omega)) ?_
  exact M.reti (nx := 25) (by decide +kernel) ⟨by rw [pk_div ha hg1 (by omega)], rfl⟩
theorem x_cellsSeenWhole {sl : Nat} (hsl : sl ≤ 64) {r c f h t : Nat} (hgeo : GeoOk r c f h t) (hpl : PlOk r c f h t PA PS) (hbn : BnOk PA PS stC sl BA BS) : CC 4 mX3_cellsSeenWhole 0 0 [.ref 100] (WX pgC pgL stC (nI sl) PA PS BA BS u) (fun r0 w1 => r0 = some (.int (nI (whC r c stC sl (r * c)))) ∧ ∃ BB BT, w1 = WX pgC pgL stC (nI sl) PA PS BB BT u ∧ BnOk PA PS stC sl BB BT) := by
  have h25 : r * c ≤ 25 := Nat.mul_le_mul hgeo.1.2 hgeo.2.1.2
  have h9a : 9 ≤ r * c := Nat.mul_le_mul hgeo.1.1 hgeo.2.1.1
  refine CC.of okX3_cellsSeenWhole.1 (Nat.le_of_ble_eq_true rfl) (fun g M => ?_)
  have lp : ∀ m k BB BT, k + m = r * c → BnOk PA PS stC sl BB BT → g 0 0 4 [(0, .ref 100), (1, .int (nI (whC r c stC sl k))), (2, .int (nI k))] [] (WX pgC pgL stC (nI sl) PA PS BB BT u) := by
    intro m
    induction m with
    | zero =>
      intro k BB BT hk hB
      have ek : r * c = k := by omega
      rw [← ek]
      refine M.blk (is := [(.iload_n 2, 2, 0, 0), (.aload_n 0, 0, 0, 0), (.getfield 22, 3, 2, 0), (.getfield 68, 1, 9, 0)]) (pc1 := 12) (lo1 := [(0, .ref 100), (1, .int (nI (whC r c stC sl (r * c)))), (2, .int (nI (r * c)))]) (st1 := [.int (PS 9), .int (nI (r * c))]) (w1 := (WX pgC pgL stC (nI sl) PA PS BB BT u)) (by decide +kernel) rfl ?_
      refine M.icmp_ge (off := 54) (tgt := 66) (nx := 15) (by decide +kernel) (fun z12 => ?_) (fun z12 => by exfalso; exact z12 (by rw [hpl.1.2.2.1]; exact nI_le (Nat.le_refl _) (by omega)))
      refine M.blk (is := [(.iload_n 1, 1, 0, 0)]) (pc1 := 67) (lo1 := [(0, .ref 100), (1, .int (nI (whC r c stC sl (r * c)))), (2, .int (nI (r * c)))]) (st1 := [.int (nI (whC r c stC sl (r * c)))]) (w1 := (WX pgC pgL stC (nI sl) PA PS BB BT u)) (by decide +kernel) rfl ?_
      exact M.reti (nx := 68) (by decide +kernel) ⟨rfl, BB, BT, rfl, hB⟩
    | succ m ih =>
      intro k BB BT hk hB
      have hkn : k < r * c := by omega
      refine M.blk (is := [(.iload_n 2, 2, 0, 0), (.aload_n 0, 0, 0, 0), (.getfield 22, 3, 2, 0), (.getfield 68, 1, 9, 0)]) (pc1 := 12) (lo1 := [(0, .ref 100), (1, .int (nI (whC r c stC sl k))), (2, .int (nI k))]) (st1 := [.int (PS 9), .int (nI k)]) (w1 := (WX pgC pgL stC (nI sl) PA PS BB BT u)) (by decide +kernel) rfl ?_
      refine M.icmp_ge (off := 54) (tgt := 66) (nx := 15) (by decide +kernel) (fun z12 => by exfalso; rw [hpl.1.2.2.1] at z12; exact nI_ge hkn (by omega) z12) (fun z12 => ?_)
      refine M.blk (is := [(.aload_n 0, 0, 0, 0), (.getfield 29, 3, 3, 0), (.aload_n 0, 0, 0, 0), (.getfield 22, 3, 2, 0), (.aload_n 0, 0, 0, 0), (.getfield 16, 3, 1, 0), (.iload_n 2, 2, 0, 0), (.iconst (-1), 0, 0, (-1))]) (pc1 := 29) (lo1 := [(0, .ref 100), (1, .int (nI (whC r c stC sl k))), (2, .int (nI k))]) (st1 := [.int (-1), .int (nI k), .ref 103, .ref 105, .ref 113]) (w1 := (WX pgC pgL stC (nI sl) PA PS BB BT u)) (by decide +kernel) rfl ?_
      refine M.callV (as := [.ref 105, .ref 103, .int (nI k), .int (-1)]) (st := []) (nx := 32) okX0_work lkX3_101 (x_work (κ := 3) hsl (by omega) hB (nI k)) (by decide +kernel) (by decide) rfl (Nat.le_of_ble_eq_true rfl) rfl (by decide) ⟨by decide, by decide⟩ ?_
      intro r0 w1 hq
      obtain ⟨rfl, BC, BU, rfl, hR⟩ := hq
      have hB2 : BnOk PA PS stC sl BC BU := Or.inr ⟨3, by omega, by rw [hR.1.1]; exact hR⟩
      unfold BnR at hR
      rw [pl_tau hpl h25 hkn] at hR
      show g 0 0 32 [(0, .ref 100), (1, .int (nI (whC r c stC sl k))), (2, .int (nI k))] [] (WX pgC pgL stC (nI sl) PA PS BC BU u)
      refine M.blk (is := [(.aload_n 0, 0, 0, 0), (.getfield 22, 3, 2, 0), (.iload_n 2, 2, 0, 0)]) (pc1 := 37) (lo1 := [(0, .ref 100), (1, .int (nI (whC r c stC sl k))), (2, .int (nI k))]) (st1 := [.int (nI k), .ref 105]) (w1 := (WX pgC pgL stC (nI sl) PA PS BC BU u)) (by decide +kernel) rfl ?_
      refine M.callVi (as := [.int (nI k)]) (st := []) (nx := 40) okX1_there lkX3_188 (x_there (nI k)) (by decide +kernel) (by decide) rfl (Nat.le_of_ble_eq_true rfl) rfl (by decide) ?_
      rw [pl_th hpl h25 hkn]
      refine M.callSi (as := [.int (nI (thr r c k))]) (st := []) (nx := 43) okX3_sightsDue lkX3_221 (s_sightsDue (WX pgC pgL stC (nI sl) PA PS BC BU u) (thr r c k)) (by decide +kernel) (by decide) rfl (Nat.le_of_ble_eq_true rfl) ?_
      refine M.blk (is := [(.istore_n 3, 3, 0, 0), (.aload_n 0, 0, 0, 0), (.getfield 29, 3, 3, 0), (.getfield 121, 0, 12, 0), (.iload_n 3, 3, 0, 0), (.iand, 0, 0, 0), (.iload_n 3, 3, 0, 0)]) (pc1 := 54) (lo1 := [(3, .int (dueA (thr r c k) 16)), (0, .ref 100), (1, .int (nI (whC r c stC sl k))), (2, .int (nI k))]) (st1 := [.int (dueA (thr r c k) 16), .int ((BU 12) &&& (dueA (thr r c k) 16))]) (w1 := (WX pgC pgL stC (nI sl) PA PS BC BU u)) (by decide +kernel) rfl ?_
      refine M.icmp_ne (off := 6) (tgt := 60) (nx := 57) (by decide +kernel) (fun z54 => ?_) (fun z54 => ?_)
      · refine M.blk (is := [(.iinc 2 1, 2, 0, 1), (.goto (-59), 4, 0, 0)]) (pc1 := 4) (lo1 := [(2, .int ((nI k) + 1)), (3, .int (dueA (thr r c k) 16)), (0, .ref 100), (1, .int (nI (whC r c stC sl k)))]) (st1 := []) (w1 := (WX pgC pgL stC (nI sl) PA PS BC BU u)) (by decide +kernel) rfl ?_
        refine M.lsub [2, 3, 0] (lo1 := [(0, .ref 100), (1, .int (nI (whC r c stC sl k))), (2, .int ((nI k) + 1))]) rfl ?_
        rw [nI_1]
        have e := ih (k + 1) BC BU (by omega) hB2
        rw [show whC r c stC sl (k + 1) = whC r c stC sl k + (if (smS 3 0 (tauG r c k) stC sl).2.2.1 &&& dueA (thr r c k) 16 = dueA (thr r c k) 16 then 1 else 0) from rfl, if_neg (fun h => z54 (by rw [hR.2.2.1 0]; exact h))] at e
        exact e
      · refine M.blk (is := [(.iinc 1 1, 1, 0, 1), (.iinc 2 1, 2, 0, 1), (.goto (-59), 4, 0, 0)]) (pc1 := 4) (lo1 := [(2, .int ((nI k) + 1)), (1, .int ((nI (whC r c stC sl k)) + 1)), (3, .int (dueA (thr r c k) 16)), (0, .ref 100)]) (st1 := []) (w1 := (WX pgC pgL stC (nI sl) PA PS BC BU u)) (by decide +kernel) rfl ?_
        refine M.lsub [3, 1, 0] (lo1 := [(0, .ref 100), (1, .int ((nI (whC r c stC sl k)) + 1)), (2, .int ((nI k) + 1))]) rfl ?_
        rw [nI_1, nI_1]
        have e := ih (k + 1) BC BU (by omega) hB2
        rw [show whC r c stC sl (k + 1) = whC r c stC sl k + (if (smS 3 0 (tauG r c k) stC sl).2.2.1 &&& dueA (thr r c k) 16 = dueA (thr r c k) 16 then 1 else 0) from rfl, if_pos (by rw [← hR.2.2.1 0]; exact z54)] at e
        exact e
  show g 0 0 0 [(0, .ref 100)] [] (WX pgC pgL stC (nI sl) PA PS BA BS u)
  refine M.blk (is := [(.iconst 0, 0, 0, 0), (.istore_n 1, 1, 0, 0), (.iconst 0, 0, 0, 0), (.istore_n 2, 2, 0, 0)]) (pc1 := 4) (lo1 := [(2, .int 0), (1, .int 0), (0, .ref 100)]) (st1 := []) (w1 := (WX pgC pgL stC (nI sl) PA PS BA BS u)) (by decide +kernel) rfl ?_
  refine M.lsub [2, 1, 0] (lo1 := [(0, .ref 100), (1, .int 0), (2, .int 0)]) rfl ?_
  exact lp (r * c) 0 BA BS (by omega) hbn
def cntF (pl sl r c f h t : Nat) (C : Nat → Int32) (y : Int32) : Int32 := if y = 0 then nI pl else if y = 1 then nI r else if y = 2 then nI c else if y = 3 then nI f else if y = 4 then nI h else if y = 5 then nI t else if y = 6 then nI sl else if y = 7 then nI (opN r c C sl) else if y = 8 then nI (opN r c C sl / Nat.gcd (boN (r * c)) (opN r c C sl)) else if y = 9 then nI (boN (r * c) / Nat.gcd (boN (r * c)) (opN r c C sl)) else if y = 10 then nI (whC r c C sl (r * c)) else -1002
theorem cnt_out {y : Int32} (h0 : y.toInt < 0 ∨ 0 + (([60, 68, 76, 84, 92, 100, 108, 116, 121, 130, 139] : List Nat).length : Int) ≤ y.toInt) {pl sl r c f h t : Nat} {C : Nat → Int32} : cntF pl sl r c f h t C y = -1002 := by
  have key : ∀ v : Int32, 0 ≤ v.toInt → v.toInt ≤ 10 → ¬ y = v := by
    rintro v h1 h2 rfl
    simp only [List.length_cons, List.length_nil] at h0
    omega
  unfold cntF
  rw [if_neg (key 0 (by decide) (by decide)), if_neg (key 1 (by decide) (by decide)), if_neg (key 2 (by decide) (by decide)), if_neg (key 3 (by decide) (by decide)), if_neg (key 4 (by decide) (by decide)), if_neg (key 5 (by decide) (by decide)), if_neg (key 6 (by decide) (by decide)), if_neg (key 7 (by decide) (by decide)), if_neg (key 8 (by decide) (by decide)), if_neg (key 9 (by decide) (by decide)), if_neg (key 10 (by decide) (by decide))]
theorem x_count {sl pl : Nat} (hsl : sl ≤ 64) {r c f h t : Nat} (hgeo : GeoOk r c f h t) (hpl : PlOk r c f h t PA PS) (hbn : BnOk PA PS stC sl BA BS) (y : Int32) : CC 5 mX3_count 0 0 [.ref 100, .int y] (WX pgC (nI pl) stC (nI sl) PA PS BA BS u) (fun r0 w1 => r0 = some (.int (cntF pl sl r c f h t stC y)) ∧ ∃ BB BT, w1 = WX pgC (nI pl) stC (nI sl) PA PS BB BT u ∧ BnOk PA PS stC sl BB BT) := by
  have h25 : r * c ≤ 25 := Nat.mul_le_mul hgeo.1.2 hgeo.2.1.2
  have h9a : 9 ≤ r * c := Nat.mul_le_mul hgeo.1.1 hgeo.2.1.1
  have hop := opN_le h25 stC sl
  have hbo : 0 < boN (r * c) ∧ boN (r * c) < 2147483648 := by unfold boN; omega
  refine CC.of okX3_count.1 (Nat.le_of_ble_eq_true rfl) (fun g M => ?_)
  show g 0 0 0 [(0, .ref 100), (1, .int y)] [] (WX pgC (nI pl) stC (nI sl) PA PS BA BS u)
  refine M.blk (is := [(.iload_n 1, 1, 0, 0)]) (pc1 := 1) (lo1 := [(0, .ref 100), (1, .int y)]) (st1 := [.int y]) (w1 := (WX pgC (nI pl) stC (nI sl) PA PS BA BS u)) (by decide +kernel) rfl ?_
  refine M.tsw (dflt := 143) (a := 0) (b := 10) (offs := #[59, 67, 75, 83, 91, 99, 107, 115, 120, 129, 138]) (len := 59) (tg := [60, 68, 76, 84, 92, 100, 108, 116, 121, 130, 139]) (dt := 144) (by decide +kernel) (fun j t hj hx1 => ?_) (fun hx1 => ?_)
  · match j, hj, hx1 with
    | 0, hj, hx1 =>
      cases hj
      have hx1 : y = 0 := i32_of hx1 (by decide)
      subst hx1
      refine M.blk (is := [(.aload_n 0, 0, 0, 0), (.getfield 10, 3, 0, 0), (.getfield 33, 2, 1, 0)]) (pc1 := 67) (lo1 := [(0, .ref 100), (1, .int 0)]) (st1 := [.int (nI pl)]) (w1 := (WX pgC (nI pl) stC (nI sl) PA PS BA BS u)) (by decide +kernel) rfl ?_
      exact M.reti (nx := 68) (by decide +kernel) ⟨rfl, BA, BS, rfl, hbn⟩
    | 1, hj, hx1 =>
      cases hj
      have hx1 : y = 1 := i32_of hx1 (by decide)
      subst hx1
      refine M.blk (is := [(.aload_n 0, 0, 0, 0), (.getfield 22, 3, 2, 0), (.getfield 124, 1, 7, 0)]) (pc1 := 75) (lo1 := [(0, .ref 100), (1, .int 1)]) (st1 := [.int (PS 7)]) (w1 := (WX pgC (nI pl) stC (nI sl) PA PS BA BS u)) (by decide +kernel) rfl ?_
      exact M.reti (nx := 76) (by decide +kernel) ⟨by rw [hpl.1.1]; rfl, BA, BS, rfl, hbn⟩
    | 2, hj, hx1 =>
      cases hj
      have hx1 : y = 2 := i32_of hx1 (by decide)
      subst hx1
      refine M.blk (is := [(.aload_n 0, 0, 0, 0), (.getfield 22, 3, 2, 0), (.getfield 127, 1, 8, 0)]) (pc1 := 83) (lo1 := [(0, .ref 100), (1, .int 2)]) (st1 := [.int (PS 8)]) (w1 := (WX pgC (nI pl) stC (nI sl) PA PS BA BS u)) (by decide +kernel) rfl ?_
      exact M.reti (nx := 84) (by decide +kernel) ⟨by rw [hpl.1.2.1]; rfl, BA, BS, rfl, hbn⟩
    | 3, hj, hx1 =>
      cases hj
      have hx1 : y = 3 := i32_of hx1 (by decide)
      subst hx1
      refine M.blk (is := [(.aload_n 0, 0, 0, 0), (.getfield 22, 3, 2, 0), (.getfield 130, 1, 10, 0)]) (pc1 := 91) (lo1 := [(0, .ref 100), (1, .int 3)]) (st1 := [.int (PS 10)]) (w1 := (WX pgC (nI pl) stC (nI sl) PA PS BA BS u)) (by decide +kernel) rfl ?_
      exact M.reti (nx := 92) (by decide +kernel) ⟨by rw [hpl.1.2.2.2.1]; rfl, BA, BS, rfl, hbn⟩
    | 4, hj, hx1 =>
      cases hj
      have hx1 : y = 4 := i32_of hx1 (by decide)
      subst hx1
      refine M.blk (is := [(.aload_n 0, 0, 0, 0), (.getfield 22, 3, 2, 0), (.getfield 133, 1, 11, 0)]) (pc1 := 99) (lo1 := [(0, .ref 100), (1, .int 4)]) (st1 := [.int (PS 11)]) (w1 := (WX pgC (nI pl) stC (nI sl) PA PS BA BS u)) (by decide +kernel) rfl ?_
      exact M.reti (nx := 100) (by decide +kernel) ⟨by rw [hpl.1.2.2.2.2.1]; rfl, BA, BS, rfl, hbn⟩
    | 5, hj, hx1 =>
      cases hj
      have hx1 : y = 5 := i32_of hx1 (by decide)
      subst hx1
      refine M.blk (is := [(.aload_n 0, 0, 0, 0), (.getfield 22, 3, 2, 0), (.getfield 136, 1, 12, 0)]) (pc1 := 107) (lo1 := [(0, .ref 100), (1, .int 5)]) (st1 := [.int (PS 12)]) (w1 := (WX pgC (nI pl) stC (nI sl) PA PS BA BS u)) (by decide +kernel) rfl ?_
      exact M.reti (nx := 108) (by decide +kernel) ⟨by rw [hpl.1.2.2.2.2.2]; rfl, BA, BS, rfl, hbn⟩
    | 6, hj, hx1 =>
      cases hj
      have hx1 : y = 6 := i32_of hx1 (by decide)
      subst hx1
      refine M.blk (is := [(.aload_n 0, 0, 0, 0), (.getfield 16, 3, 1, 0), (.getfield 33, 2, 1, 0)]) (pc1 := 115) (lo1 := [(0, .ref 100), (1, .int 6)]) (st1 := [.int (nI sl)]) (w1 := (WX pgC (nI pl) stC (nI sl) PA PS BA BS u)) (by decide +kernel) rfl ?_
      exact M.reti (nx := 116) (by decide +kernel) ⟨rfl, BA, BS, rfl, hbn⟩
    | 7, hj, hx1 =>
      cases hj
      have hx1 : y = 7 := i32_of hx1 (by decide)
      subst hx1
      refine M.blk (is := [(.aload_n 0, 0, 0, 0)]) (pc1 := 117) (lo1 := [(0, .ref 100), (1, .int 7)]) (st1 := [.ref 100]) (w1 := (WX pgC (nI pl) stC (nI sl) PA PS BA BS u)) (by decide +kernel) rfl ?_
      refine M.callVi (as := []) (st := []) (nx := 120) okX3_ops lkX3_139 (x_ops hsl hgeo hpl) (by decide +kernel) (by decide) rfl (Nat.le_of_ble_eq_true rfl) rfl (by decide) ?_
      exact M.reti (nx := 121) (by decide +kernel) ⟨rfl, BA, BS, rfl, hbn⟩
    | 8, hj, hx1 =>
      cases hj
      have hx1 : y = 8 := i32_of hx1 (by decide)
      subst hx1
      refine M.blk (is := [(.aload_n 0, 0, 0, 0), (.aload_n 0, 0, 0, 0)]) (pc1 := 123) (lo1 := [(0, .ref 100), (1, .int 8)]) (st1 := [.ref 100, .ref 100]) (w1 := (WX pgC (nI pl) stC (nI sl) PA PS BA BS u)) (by decide +kernel) rfl ?_
      refine M.callVi (as := []) (st := [.ref 100]) (nx := 126) okX3_ops lkX3_139 (x_ops hsl hgeo hpl) (by decide +kernel) (by decide) rfl (Nat.le_of_ble_eq_true rfl) rfl (by decide) ?_
      refine M.callVi (as := [.int (nI (opN r c stC sl))]) (st := []) (nx := 129) okX3_lowered lkX3_142 (x_lowered hsl hgeo hpl (by omega)) (by decide +kernel) (by decide) rfl (Nat.le_of_ble_eq_true rfl) rfl (by decide) ?_
      exact M.reti (nx := 130) (by decide +kernel) ⟨rfl, BA, BS, rfl, hbn⟩
    | 9, hj, hx1 =>
      cases hj
      have hx1 : y = 9 := i32_of hx1 (by decide)
      subst hx1
      refine M.blk (is := [(.aload_n 0, 0, 0, 0), (.aload_n 0, 0, 0, 0)]) (pc1 := 132) (lo1 := [(0, .ref 100), (1, .int 9)]) (st1 := [.ref 100, .ref 100]) (w1 := (WX pgC (nI pl) stC (nI sl) PA PS BA BS u)) (by decide +kernel) rfl ?_
      refine M.callVi (as := []) (st := [.ref 100]) (nx := 135) okX3_bound lkX3_145 (x_bound hgeo hpl) (by decide +kernel) (by decide) rfl (Nat.le_of_ble_eq_true rfl) rfl (by decide) ?_
      refine M.callVi (as := [.int (nI (boN (r * c)))]) (st := []) (nx := 138) okX3_lowered lkX3_142 (x_lowered hsl hgeo hpl (by omega)) (by decide +kernel) (by decide) rfl (Nat.le_of_ble_eq_true rfl) rfl (by decide) ?_
      exact M.reti (nx := 139) (by decide +kernel) ⟨rfl, BA, BS, rfl, hbn⟩
    | 10, hj, hx1 =>
      cases hj
      have hx1 : y = 10 := i32_of hx1 (by decide)
      subst hx1
      refine M.blk (is := [(.aload_n 0, 0, 0, 0)]) (pc1 := 140) (lo1 := [(0, .ref 100), (1, .int 10)]) (st1 := [.ref 100]) (w1 := (WX pgC (nI pl) stC (nI sl) PA PS BA BS u)) (by decide +kernel) rfl ?_
      refine M.callV (as := []) (st := []) (nx := 143) okX3_cellsSeenWhole lkX3_148 (x_cellsSeenWhole hsl hgeo hpl hbn) (by decide +kernel) (by decide) rfl (Nat.le_of_ble_eq_true rfl) rfl (by decide) ⟨by decide, by decide⟩ ?_
      intro r0 w1 hq
      obtain ⟨rfl, BB, BT, rfl, hB⟩ := hq
      show g 0 0 143 [(0, .ref 100), (1, .int 10)] [.int (nI (whC r c stC sl (r * c)))] (WX pgC (nI pl) stC (nI sl) PA PS BB BT u)
      exact M.reti (nx := 144) (by decide +kernel) ⟨rfl, BB, BT, rfl, hB⟩
    | j + 11, hj, _ => exact absurd hj (by simp)
  · refine M.blk (is := [(.sipush (-1002), 0, 0, (-1002))]) (pc1 := 147) (lo1 := [(0, .ref 100), (1, .int y)]) (st1 := [.int (-1002)]) (w1 := (WX pgC (nI pl) stC (nI sl) PA PS BA BS u)) (by decide +kernel) rfl ?_
    exact M.reti (nx := 148) (by decide +kernel) ⟨by rw [cnt_out hx1], BA, BS, rfl, hbn⟩
end COUNT
