section RUN
variable {pgC : Nat → Int32} {pgL : Int32} {stC : Nat → Int32} {stL : Int32} {PA : Nat → Nat → Int32} {PS : Nat → Int32} {BA : Nat → Nat → Int32} {BS : Nat → Int32} {u : List Cl}
def lbA (all : Int32) (PA : Nat → Nat → Int32) (C : Nat → Int32) (j : Nat) : Int32 := match j with
  | 0 => 0
  | j + 1 => if C j = 122 then 0 else if C j = 111 then all else if figF (C j) = 0 then lbA all PA C j else lbA all PA C j ^^^ ctF PA (C j - 48)
theorem lbA_succ (all : Int32) (PA : Nat → Nat → Int32) (C : Nat → Int32) (j : Nat) : lbA all PA C (j + 1) = if C j = 122 then 0 else if C j = 111 then all else if figF (C j) = 0 then lbA all PA C j else lbA all PA C j ^^^ ctF PA (C j - 48) := rfl
def tauG (r c k : Nat) : Nat → Int32 := fun d => if d < 4 then (match nbO r c k d with | none => -1 | some m => nI (tyN c m)) else nI (tyN c k)
theorem nb_lt {r c k d m : Nat} (hk : k < r * c) (h : nbO r c k d = some m) : m < r * c := by
  have h0 : 0 < c := by rcases Nat.eq_zero_or_pos c with e | e; rw [e] at hk; omega; exact e
  have hd1 := Nat.div_add_mod k c
  have hm1 := Nat.mod_lt k h0
  have hrow : k / c < r := by rw [Nat.div_lt_iff_lt_mul h0]; exact hk
  unfold nbO at h
  split at h
  · split at h
    · cases h; omega
    · cases h
  · split at h
    · rename_i h2
      cases h
      have : c * (k / c) + c ≤ c * r := by rw [← Nat.mul_succ]; exact Nat.mul_le_mul_left c hrow
      rw [Nat.mul_comm r c]
      omega
    · cases h
  · split at h
    · rename_i h2
      cases h
      have : c * (k / c + 1) + c ≤ c * r := by rw [← Nat.mul_succ]; exact Nat.mul_le_mul_left c h2
      rw [Nat.mul_add] at this
      rw [Nat.mul_comm r c]
      omega
    · cases h
  · split at h
    · cases h; omega
    · cases h
theorem thr_lt (r c k : Nat) : thr r c k < 16 := by
  unfold thr
  (repeat' split) <;> omega
section PL
variable {r c f h t : Nat} {PA : Nat → Nat → Int32} {PS : Nat → Int32}
theorem pl_ty {k : Nat} (hp : PlOk r c f h t PA PS) (h25 : r * c ≤ 25) (hk : k < r * c) : tyF PA PS (nI k) = nI (tyN c k) := by
  unfold tyF
  rw [hasF_nI hp.1.2.2.1 h25 hk, if_neg (by decide), nI_clamp (by omega)]
  exact (hp.2.1.1 k hk).1
theorem pl_th {k : Nat} (hp : PlOk r c f h t PA PS) (h25 : r * c ≤ 25) (hk : k < r * c) : thF PA PS (nI k) = nI (thr r c k) := by
  unfold thF
  rw [hasF_nI hp.1.2.2.1 h25 hk, if_neg (by decide), nI_clamp (by omega)]
  exact (hp.2.1.1 k hk).2.2.1
theorem pl_be {k d : Nat} (hp : PlOk r c f h t PA PS) (h25 : r * c ≤ 25) (hk : k < r * c) (hd : d < 4) : beF PA PS (nI k) (nI d) = oI (nbO r c k d) := by
  unfold beF
  rw [hasF_nI hp.1.2.2.1 h25 hk, if_neg (by decide), if_neg (nI_pos (by omega)), if_neg (show ¬ (4 : Int32) ≤ nI d from nI_ge (b := 4) hd (by decide)), nI_clamp (by omega), nI_clamp (by omega)]
  exact (hp.2.1.1 k hk).2.2.2 d hd
theorem pl_ad {k a : Nat} (hp : PlOk r c f h t PA PS) (h25 : r * c ≤ 25) (ha : a < r * c) (hk : (f * a + h) % (r * c) = k) : adF PA PS (nI k) = nI a := by
  have hk2 : k < r * c := by rw [← hk]; exact Nat.mod_lt _ (by omega)
  unfold adF
  rw [hasF_nI hp.1.2.2.1 h25 hk2, if_neg (by decide), nI_clamp (by omega), ← hk]
  exact (hp.2.2 a ha).2
theorem pl_cl {a : Nat} (hp : PlOk r c f h t PA PS) (h25 : r * c ≤ 25) (ha : a < r * c) : clF PA PS (nI a) = nI ((f * a + h) % (r * c)) := by
  unfold clF
  rw [hasF_nI hp.1.2.2.1 h25 ha, if_neg (by decide), nI_clamp (by omega)]
  exact (hp.2.2 a ha).1
theorem pl_tau {k : Nat} (hp : PlOk r c f h t PA PS) (h25 : r * c ≤ 25) (hk : k < r * c) : smT PA PS (nI k) = tauG r c k := by
  funext d
  unfold smT tauG
  by_cases hd : d < 4
  · rw [if_pos hd, if_pos hd, pl_be hp h25 hk hd]
    cases hn : nbO r c k d with
    | none =>
      unfold tyF
      rw [if_pos (show hasF PS (oI none) = 0 from if_pos (by decide))]
    | some m => exact pl_ty hp h25 (nb_lt hk hn)
  · rw [if_neg hd, if_neg hd, pl_ty hp h25 hk]
end PL
def rwoF (lb y : Int32) : Int32 := if y = 3 then 0 else if y = 4 then 0 else if y = 5 then lb else -1
def rwF (m f rr b lb ad tu x y : Int32) : Int32 := if y = 0 then (if m ≤ 0 then -1 else f) else if y = 1 then (if m ≤ 0 then -1 else ad) else if y = 2 then (if m ≤ 0 then -1 else rr ^^^ tu) else if y = 3 then m else if y = 4 then (if m ≤ 0 then 0 else 1) else (lb &&& ((1 <<< (x &&& 31)) ^^^ (-1))) ||| (b <<< (x &&& 31))
theorem x_lastBits {sl : Nat} (hsl : sl ≤ 64) : CC 1 mX3_lastBits 0 0 [.ref 100] (WX pgC pgL stC (nI sl) PA PS BA BS u) (Rt (lbA (((1 : Int32) <<< (PS 9 &&& 31)) - 1) PA stC sl) (WX pgC pgL stC (nI sl) PA PS BA BS u)) := by
  refine CC.of okX3_lastBits.1 (Nat.le_of_ble_eq_true rfl) (fun g M => ?_)
  have lp : ∀ m j, j + m = sl → g 0 0 16 [(0, .ref 100), (1, .int (((1 : Int32) <<< (PS 9 &&& 31)) - 1)), (2, .int (lbA (((1 : Int32) <<< (PS 9 &&& 31)) - 1) PA stC j)), (3, .int (nI j))] [] (WX pgC pgL stC (nI sl) PA PS BA BS u) := by
    intro m
    induction m with
    | zero =>
      intro j hj
      have ej : sl = j := by omega
      subst ej
      refine M.blk (is := [(.iload_n 3, 3, 0, 0), (.aload_n 0, 0, 0, 0), (.getfield 16, 3, 1, 0), (.getfield 33, 2, 1, 0)]) (pc1 := 24) (lo1 := [(0, .ref 100), (1, .int (((1 : Int32) <<< (PS 9 &&& 31)) - 1)), (2, .int (lbA (((1 : Int32) <<< (PS 9 &&& 31)) - 1) PA stC sl)), (3, .int (nI sl))]) (st1 := [.int (nI sl), .int (nI sl)]) (w1 := (WX pgC pgL stC (nI sl) PA PS BA BS u)) (by decide +kernel) rfl ?_
      refine M.icmp_ge (off := 66) (tgt := 90) (nx := 27) (by decide +kernel) (fun z24 => ?_) (fun z24 => by exfalso; exact z24 (nI_le (Nat.le_refl _) (by omega)))
      refine M.blk (is := [(.iload_n 2, 2, 0, 0)]) (pc1 := 91) (lo1 := [(0, .ref 100), (1, .int (((1 : Int32) <<< (PS 9 &&& 31)) - 1)), (2, .int (lbA (((1 : Int32) <<< (PS 9 &&& 31)) - 1) PA stC sl)), (3, .int (nI sl))]) (st1 := [.int (lbA (((1 : Int32) <<< (PS 9 &&& 31)) - 1) PA stC sl)]) (w1 := (WX pgC pgL stC (nI sl) PA PS BA BS u)) (by decide +kernel) rfl ?_
      exact M.reti (nx := 92) (by decide +kernel) ⟨rfl, rfl⟩
    | succ m ih =>
      intro j hj
      refine M.blk (is := [(.iload_n 3, 3, 0, 0), (.aload_n 0, 0, 0, 0), (.getfield 16, 3, 1, 0), (.getfield 33, 2, 1, 0)]) (pc1 := 24) (lo1 := [(0, .ref 100), (1, .int (((1 : Int32) <<< (PS 9 &&& 31)) - 1)), (2, .int (lbA (((1 : Int32) <<< (PS 9 &&& 31)) - 1) PA stC j)), (3, .int (nI j))]) (st1 := [.int (nI sl), .int (nI j)]) (w1 := (WX pgC pgL stC (nI sl) PA PS BA BS u)) (by decide +kernel) rfl ?_
      refine M.icmp_ge (off := 66) (tgt := 90) (nx := 27) (by decide +kernel) (fun z24 => by exfalso; exact nI_ge (show j < sl by omega) (by omega) z24) (fun z24 => ?_)
      refine M.blk (is := [(.aload_n 0, 0, 0, 0), (.getfield 16, 3, 1, 0), (.iload_n 3, 3, 0, 0)]) (pc1 := 32) (lo1 := [(0, .ref 100), (1, .int (((1 : Int32) <<< (PS 9 &&& 31)) - 1)), (2, .int (lbA (((1 : Int32) <<< (PS 9 &&& 31)) - 1) PA stC j)), (3, .int (nI j))]) (st1 := [.int (nI j), .ref 103]) (w1 := (WX pgC pgL stC (nI sl) PA PS BA BS u)) (by decide +kernel) rfl ?_
      refine M.callVi (as := [.int (nI j)]) (st := []) (nx := 35) okX2_get lkX3_44 (x_get3 (nI j)) (by decide +kernel) (by decide) rfl (Nat.le_of_ble_eq_true rfl) rfl (by decide) ?_
      rw [sGet_nI hsl (show j < sl by omega)]
      refine M.blk (is := [(.istore 4, 4, 0, 0), (.iload 4, 4, 0, 0), (.bipush 122, 0, 0, 122)]) (pc1 := 41) (lo1 := [(4, .int (stC j)), (0, .ref 100), (1, .int (((1 : Int32) <<< (PS 9 &&& 31)) - 1)), (2, .int (lbA (((1 : Int32) <<< (PS 9 &&& 31)) - 1) PA stC j)), (3, .int (nI j))]) (st1 := [.int 122, .int (stC j)]) (w1 := (WX pgC pgL stC (nI sl) PA PS BA BS u)) (by decide +kernel) rfl ?_
      refine M.icmp_ne (off := 8) (tgt := 49) (nx := 44) (by decide +kernel) (fun z41 => ?_) (fun z41 => ?_)
      · refine M.blk (is := [(.iload 4, 4, 0, 0), (.bipush 111, 0, 0, 111)]) (pc1 := 53) (lo1 := [(4, .int (stC j)), (0, .ref 100), (1, .int (((1 : Int32) <<< (PS 9 &&& 31)) - 1)), (2, .int (lbA (((1 : Int32) <<< (PS 9 &&& 31)) - 1) PA stC j)), (3, .int (nI j))]) (st1 := [.int 111, .int (stC j)]) (w1 := (WX pgC pgL stC (nI sl) PA PS BA BS u)) (by decide +kernel) rfl ?_
        refine M.icmp_ne (off := 8) (tgt := 61) (nx := 56) (by decide +kernel) (fun z53 => ?_) (fun z53 => ?_)
        · refine M.blk (is := [(.iload 4, 4, 0, 0)]) (pc1 := 63) (lo1 := [(4, .int (stC j)), (0, .ref 100), (1, .int (((1 : Int32) <<< (PS 9 &&& 31)) - 1)), (2, .int (lbA (((1 : Int32) <<< (PS 9 &&& 31)) - 1) PA stC j)), (3, .int (nI j))]) (st1 := [.int (stC j)]) (w1 := (WX pgC pgL stC (nI sl) PA PS BA BS u)) (by decide +kernel) rfl ?_
          refine M.callSi (as := [.int (stC j)]) (st := []) (nx := 66) okX3_isFigure lkX3_185 (s_isFigure (WX pgC pgL stC (nI sl) PA PS BA BS u) (stC j)) (by decide +kernel) (by decide) rfl (Nat.le_of_ble_eq_true rfl) ?_
          refine M.if_eq (off := 18) (tgt := 84) (nx := 69) (by decide +kernel) (fun z66 => ?_) (fun z66 => ?_)
          · refine M.blk (is := [(.iinc 3 1, 3, 0, 1), (.goto (-71), 16, 0, 0)]) (pc1 := 16) (lo1 := [(3, .int ((nI j) + 1)), (4, .int (stC j)), (0, .ref 100), (1, .int (((1 : Int32) <<< (PS 9 &&& 31)) - 1)), (2, .int (lbA (((1 : Int32) <<< (PS 9 &&& 31)) - 1) PA stC j))]) (st1 := []) (w1 := (WX pgC pgL stC (nI sl) PA PS BA BS u)) (by decide +kernel) rfl ?_
            refine M.lsub [2, 3, 4, 0] (lo1 := [(0, .ref 100), (1, .int (((1 : Int32) <<< (PS 9 &&& 31)) - 1)), (2, .int (lbA (((1 : Int32) <<< (PS 9 &&& 31)) - 1) PA stC j)), (3, .int ((nI j) + 1))]) rfl ?_
            rw [nI_1]
            have e := ih (j + 1) (by omega)
            rw [lbA_succ, if_neg z41, if_neg z53, if_pos z66] at e
            exact e
          · refine M.blk (is := [(.iload_n 2, 2, 0, 0), (.aload_n 0, 0, 0, 0), (.getfield 22, 3, 2, 0), (.iload 4, 4, 0, 0), (.bipush 48, 0, 0, 48), (.isub, 0, 0, 0)]) (pc1 := 79) (lo1 := [(4, .int (stC j)), (0, .ref 100), (1, .int (((1 : Int32) <<< (PS 9 &&& 31)) - 1)), (2, .int (lbA (((1 : Int32) <<< (PS 9 &&& 31)) - 1) PA stC j)), (3, .int (nI j))]) (st1 := [.int ((stC j) - 48), .ref 105, .int (lbA (((1 : Int32) <<< (PS 9 &&& 31)) - 1) PA stC j)]) (w1 := (WX pgC pgL stC (nI sl) PA PS BA BS u)) (by decide +kernel) rfl ?_
            refine M.callVi (as := [.int ((stC j) - 48)]) (st := [.int (lbA (((1 : Int32) <<< (PS 9 &&& 31)) - 1) PA stC j)]) (nx := 82) okX1_cellsOfType lkX3_212 (x_cellsOfType ((stC j) - 48)) (by decide +kernel) (by decide) rfl (Nat.le_of_ble_eq_true rfl) rfl (by decide) ?_
            refine M.blk (is := [(.ixor, 0, 0, 0), (.istore_n 2, 2, 0, 0), (.iinc 3 1, 3, 0, 1), (.goto (-71), 16, 0, 0)]) (pc1 := 16) (lo1 := [(3, .int ((nI j) + 1)), (2, .int ((lbA (((1 : Int32) <<< (PS 9 &&& 31)) - 1) PA stC j) ^^^ (ctF PA ((stC j) - 48)))), (4, .int (stC j)), (0, .ref 100), (1, .int (((1 : Int32) <<< (PS 9 &&& 31)) - 1))]) (st1 := []) (w1 := (WX pgC pgL stC (nI sl) PA PS BA BS u)) (by decide +kernel) rfl ?_
            refine M.lsub [3, 4, 1, 0] (lo1 := [(0, .ref 100), (1, .int (((1 : Int32) <<< (PS 9 &&& 31)) - 1)), (2, .int ((lbA (((1 : Int32) <<< (PS 9 &&& 31)) - 1) PA stC j) ^^^ (ctF PA ((stC j) - 48)))), (3, .int ((nI j) + 1))]) rfl ?_
            rw [nI_1]
            have e := ih (j + 1) (by omega)
            rw [lbA_succ, if_neg z41, if_neg z53, if_neg z66] at e
            exact e
        · refine M.blk (is := [(.iload_n 1, 1, 0, 0), (.istore_n 2, 2, 0, 0), (.goto 26, 84, 0, 0), (.iinc 3 1, 3, 0, 1), (.goto (-71), 16, 0, 0)]) (pc1 := 16) (lo1 := [(3, .int ((nI j) + 1)), (2, .int (((1 : Int32) <<< (PS 9 &&& 31)) - 1)), (4, .int (stC j)), (0, .ref 100), (1, .int (((1 : Int32) <<< (PS 9 &&& 31)) - 1))]) (st1 := []) (w1 := (WX pgC pgL stC (nI sl) PA PS BA BS u)) (by decide +kernel) rfl ?_
          refine M.lsub [3, 4, 1, 0] (lo1 := [(0, .ref 100), (1, .int (((1 : Int32) <<< (PS 9 &&& 31)) - 1)), (2, .int (((1 : Int32) <<< (PS 9 &&& 31)) - 1)), (3, .int ((nI j) + 1))]) rfl ?_
          rw [nI_1]
          have e := ih (j + 1) (by omega)
          rw [lbA_succ, if_neg z41, if_pos z53] at e
          exact e
      · refine M.blk (is := [(.iconst 0, 0, 0, 0), (.istore_n 2, 2, 0, 0), (.goto 38, 84, 0, 0), (.iinc 3 1, 3, 0, 1), (.goto (-71), 16, 0, 0)]) (pc1 := 16) (lo1 := [(3, .int ((nI j) + 1)), (2, .int 0), (4, .int (stC j)), (0, .ref 100), (1, .int (((1 : Int32) <<< (PS 9 &&& 31)) - 1))]) (st1 := []) (w1 := (WX pgC pgL stC (nI sl) PA PS BA BS u)) (by decide +kernel) rfl ?_
        refine M.lsub [3, 4, 1, 0] (lo1 := [(0, .ref 100), (1, .int (((1 : Int32) <<< (PS 9 &&& 31)) - 1)), (2, .int 0), (3, .int ((nI j) + 1))]) rfl ?_
        rw [nI_1]
        have e := ih (j + 1) (by omega)
        rw [lbA_succ, if_pos z41] at e
        exact e
  show g 0 0 0 [(0, .ref 100)] [] (WX pgC pgL stC (nI sl) PA PS BA BS u)
  refine M.blk (is := [(.iconst 1, 0, 0, 1), (.aload_n 0, 0, 0, 0), (.getfield 22, 3, 2, 0), (.getfield 68, 1, 9, 0), (.ishl, 0, 0, 0), (.iconst 1, 0, 0, 1), (.isub, 0, 0, 0), (.istore_n 1, 1, 0, 0), (.iconst 0, 0, 0, 0), (.istore_n 2, 2, 0, 0), (.iconst 0, 0, 0, 0), (.istore_n 3, 3, 0, 0)]) (pc1 := 16) (lo1 := [(3, .int 0), (2, .int 0), (1, .int (((1 : Int32) <<< ((PS 9) &&& 31)) - 1)), (0, .ref 100)]) (st1 := []) (w1 := (WX pgC pgL stC (nI sl) PA PS BA BS u)) (by decide +kernel) rfl ?_
  refine M.lsub [3, 2, 1, 0] (lo1 := [(0, .ref 100), (1, .int (((1 : Int32) <<< ((PS 9) &&& 31)) - 1)), (2, .int 0), (3, .int 0)]) rfl ?_
  exact lp sl 0 (by omega)
theorem rwo_out {y lb : Int32} (h : y.toInt < 3 ∨ 3 + (([28, 28, 30] : List Nat).length : Int) ≤ y.toInt) : rwoF lb y = -1 := by
  have key : ∀ v : Int32, 3 ≤ v.toInt → v.toInt ≤ 5 → ¬ y = v := by
    rintro v h1 h2 rfl
    simp only [List.length_cons, List.length_nil] at h
    omega
  unfold rwoF
  rw [if_neg (key 3 (by decide) (by decide)), if_neg (key 4 (by decide) (by decide)), if_neg (key 5 (by decide) (by decide))]
theorem x_runWithout {sl : Nat} (hsl : sl ≤ 64) (y : Int32) : CC 2 mX3_runWithout 0 0 [.ref 100, .int y] (WX pgC pgL stC (nI sl) PA PS BA BS u) (Rt (rwoF (lbA (((1 : Int32) <<< (PS 9 &&& 31)) - 1) PA stC sl) y) (WX pgC pgL stC (nI sl) PA PS BA BS u)) := by
  refine CC.of okX3_runWithout.1 (Nat.le_of_ble_eq_true rfl) (fun g M => ?_)
  show g 0 0 0 [(0, .ref 100), (1, .int y)] [] (WX pgC pgL stC (nI sl) PA PS BA BS u)
  refine M.blk (is := [(.iload_n 1, 1, 0, 0)]) (pc1 := 1) (lo1 := [(0, .ref 100), (1, .int y)]) (st1 := [.int y]) (w1 := (WX pgC pgL stC (nI sl) PA PS BA BS u)) (by decide +kernel) rfl ?_
  refine M.tsw (dflt := 34) (a := 3) (b := 5) (offs := #[27, 27, 29]) (len := 27) (tg := [28, 28, 30]) (dt := 35) (by decide +kernel) (fun j t hj hx1 => ?_) (fun hx1 => ?_)
  · match j, hj, hx1 with
    | 0, hj, hx1 =>
      cases hj
      have hx1 : y = 3 := i32_of hx1 (by decide)
      subst hx1
      refine M.blk (is := [(.iconst 0, 0, 0, 0)]) (pc1 := 29) (lo1 := [(0, .ref 100), (1, .int 3)]) (st1 := [.int 0]) (w1 := (WX pgC pgL stC (nI sl) PA PS BA BS u)) (by decide +kernel) rfl ?_
      exact M.reti (nx := 30) (by decide +kernel) ⟨rfl, rfl⟩
    | 1, hj, hx1 =>
      cases hj
      have hx1 : y = 4 := i32_of hx1 (by decide)
      subst hx1
      refine M.blk (is := [(.iconst 0, 0, 0, 0)]) (pc1 := 29) (lo1 := [(0, .ref 100), (1, .int 4)]) (st1 := [.int 0]) (w1 := (WX pgC pgL stC (nI sl) PA PS BA BS u)) (by decide +kernel) rfl ?_
      exact M.reti (nx := 30) (by decide +kernel) ⟨rfl, rfl⟩
    | 2, hj, hx1 =>
      cases hj
      have hx1 : y = 5 := i32_of hx1 (by decide)
      subst hx1
      refine M.blk (is := [(.aload_n 0, 0, 0, 0)]) (pc1 := 31) (lo1 := [(0, .ref 100), (1, .int 5)]) (st1 := [.ref 100]) (w1 := (WX pgC pgL stC (nI sl) PA PS BA BS u)) (by decide +kernel) rfl ?_
      refine M.callVi (as := []) (st := []) (nx := 34) okX3_lastBits lkX3_197 (x_lastBits hsl) (by decide +kernel) (by decide) rfl (Nat.le_of_ble_eq_true rfl) rfl (by decide) ?_
      exact M.reti (nx := 35) (by decide +kernel) ⟨rfl, rfl⟩
    | j + 3, hj, _ => exact absurd hj (by simp)
  · refine M.blk (is := [(.iconst (-1), 0, 0, (-1))]) (pc1 := 36) (lo1 := [(0, .ref 100), (1, .int y)]) (st1 := [.int (-1)]) (w1 := (WX pgC pgL stC (nI sl) PA PS BA BS u)) (by decide +kernel) rfl ?_
    exact M.reti (nx := 37) (by decide +kernel) ⟨by rw [rwo_out hx1], rfl⟩
theorem rw_b0 {b m : Int32} (h : b = if m ≤ 0 then (0 : Int32) else 1) (h0 : b = 0) : m ≤ 0 := by
  by_cases e : m ≤ 0
  · exact e
  · rw [if_neg e] at h; rw [h] at h0; exact absurd h0 (by decide)
theorem rw_b1 {b m : Int32} (h : b = if m ≤ 0 then (0 : Int32) else 1) (h0 : ¬ b = 0) : ¬ m ≤ 0 := fun e => h0 (by rw [h, if_pos e])
theorem rw_out {m f rr b lb ad tu x y : Int32} (h : y.toInt < 0 ∨ 0 + (([52, 70, 88, 115, 124] : List Nat).length : Int) ≤ y.toInt) : rwF m f rr b lb ad tu x y = (lb &&& ((1 <<< (x &&& 31)) ^^^ (-1))) ||| (b <<< (x &&& 31)) := by
  have key : ∀ v : Int32, 0 ≤ v.toInt → v.toInt ≤ 4 → ¬ y = v := by
    rintro v h1 h2 rfl
    simp only [List.length_cons, List.length_nil] at h
    omega
  unfold rwF
  rw [if_neg (key 0 (by decide) (by decide)), if_neg (key 1 (by decide) (by decide)), if_neg (key 2 (by decide) (by decide)), if_neg (key 3 (by decide) (by decide)), if_neg (key 4 (by decide) (by decide))]
theorem x_runWith {sl p n : Nat} (hsl : sl ≤ 64) (h8 : BS 8 = nI n) (hn : n ≤ 128) (hp : p < n) (x y : Int32) : CC 2 mX3_runWith 0 0 [.ref 100, .int x, .int (nI p), .int y] (WX pgC pgL stC (nI sl) PA PS BA BS u) (Rt (rwF (BA 1 p) (BA 2 p) (BA 3 p) (BA 0 p) (lbA (((1 : Int32) <<< (PS 9 &&& 31)) - 1) PA stC sl) (adF PA PS x) (tuF PA PS x) x y) (WX pgC pgL stC (nI sl) PA PS BA BS u)) := by
  refine CC.of okX3_runWith.1 (Nat.le_of_ble_eq_true rfl) (fun g M => ?_)
  show g 0 0 0 [(0, .ref 100), (1, .int x), (2, .int (nI p)), (3, .int y)] [] (WX pgC pgL stC (nI sl) PA PS BA BS u)
  refine M.blk (is := [(.aload_n 0, 0, 0, 0), (.getfield 29, 3, 3, 0), (.iload_n 2, 2, 0, 0)]) (pc1 := 5) (lo1 := [(0, .ref 100), (1, .int x), (2, .int (nI p)), (3, .int y)]) (st1 := [.int (nI p), .ref 113]) (w1 := (WX pgC pgL stC (nI sl) PA PS BA BS u)) (by decide +kernel) rfl ?_
  refine M.callVi (as := [.int (nI p)]) (st := []) (nx := 8) okX0_missesOf lkX3_200 (x_missesOf h8 hn hp) (by decide +kernel) (by decide) rfl (Nat.le_of_ble_eq_true rfl) rfl (by decide) ?_
  have j8 : ∀ b8 : Int32, b8 = (if BA 1 p ≤ 0 then (0 : Int32) else 1) → g 0 0 16 [(0, .ref 100), (1, .int x), (2, .int (nI p)), (3, .int y)] [.int b8] (WX pgC pgL stC (nI sl) PA PS BA BS u) := by
    intro b8 hb8
    refine M.blk (is := [(.istore 4, 4, 0, 0), (.iload_n 3, 3, 0, 0)]) (pc1 := 19) (lo1 := [(4, .int b8), (0, .ref 100), (1, .int x), (2, .int (nI p)), (3, .int y)]) (st1 := [.int y]) (w1 := (WX pgC pgL stC (nI sl) PA PS BA BS u)) (by decide +kernel) rfl ?_
    refine M.tsw (dflt := 116) (a := 0) (b := 4) (offs := #[33, 51, 69, 96, 105]) (len := 33) (tg := [52, 70, 88, 115, 124]) (dt := 135) (by decide +kernel) (fun j t hj hx19 => ?_) (fun hx19 => ?_)
    · match j, hj, hx19 with
      | 0, hj, hx19 =>
        cases hj
        have hx19 : y = 0 := i32_of hx19 (by decide)
        subst hx19
        refine M.blk (is := [(.iload 4, 4, 0, 0)]) (pc1 := 54) (lo1 := [(4, .int b8), (0, .ref 100), (1, .int x), (2, .int (nI p)), (3, .int 0)]) (st1 := [.int b8]) (w1 := (WX pgC pgL stC (nI sl) PA PS BA BS u)) (by decide +kernel) rfl ?_
        refine M.if_eq (off := 14) (tgt := 68) (nx := 57) (by decide +kernel) (fun z54 => ?_) (fun z54 => ?_)
        · refine M.blk (is := [(.iconst (-1), 0, 0, (-1))]) (pc1 := 69) (lo1 := [(4, .int b8), (0, .ref 100), (1, .int x), (2, .int (nI p)), (3, .int 0)]) (st1 := [.int (-1)]) (w1 := (WX pgC pgL stC (nI sl) PA PS BA BS u)) (by decide +kernel) rfl ?_
          exact M.reti (nx := 70) (by decide +kernel) ⟨by have hm : BA 1 p ≤ 0 := rw_b0 hb8 z54; unfold rwF; simp [hm], rfl⟩
        · refine M.blk (is := [(.aload_n 0, 0, 0, 0), (.getfield 29, 3, 3, 0), (.iload_n 2, 2, 0, 0)]) (pc1 := 62) (lo1 := [(4, .int b8), (0, .ref 100), (1, .int x), (2, .int (nI p)), (3, .int 0)]) (st1 := [.int (nI p), .ref 113]) (w1 := (WX pgC pgL stC (nI sl) PA PS BA BS u)) (by decide +kernel) rfl ?_
          refine M.callVi (as := [.int (nI p)]) (st := []) (nx := 65) okX0_firstStepOf lkX3_203 (x_firstStepOf h8 hn hp) (by decide +kernel) (by decide) rfl (Nat.le_of_ble_eq_true rfl) rfl (by decide) ?_
          refine M.blk (is := [(.goto 4, 69, 0, 0)]) (pc1 := 69) (lo1 := [(4, .int b8), (0, .ref 100), (1, .int x), (2, .int (nI p)), (3, .int 0)]) (st1 := [.int (BA 2 p)]) (w1 := (WX pgC pgL stC (nI sl) PA PS BA BS u)) (by decide +kernel) rfl ?_
          exact M.reti (nx := 70) (by decide +kernel) ⟨by have hm : ¬ BA 1 p ≤ 0 := rw_b1 hb8 z54; unfold rwF; simp [hm], rfl⟩
      | 1, hj, hx19 =>
        cases hj
        have hx19 : y = 1 := i32_of hx19 (by decide)
        subst hx19
        refine M.blk (is := [(.iload 4, 4, 0, 0)]) (pc1 := 72) (lo1 := [(4, .int b8), (0, .ref 100), (1, .int x), (2, .int (nI p)), (3, .int 1)]) (st1 := [.int b8]) (w1 := (WX pgC pgL stC (nI sl) PA PS BA BS u)) (by decide +kernel) rfl ?_
        refine M.if_eq (off := 14) (tgt := 86) (nx := 75) (by decide +kernel) (fun z72 => ?_) (fun z72 => ?_)
        · refine M.blk (is := [(.iconst (-1), 0, 0, (-1))]) (pc1 := 87) (lo1 := [(4, .int b8), (0, .ref 100), (1, .int x), (2, .int (nI p)), (3, .int 1)]) (st1 := [.int (-1)]) (w1 := (WX pgC pgL stC (nI sl) PA PS BA BS u)) (by decide +kernel) rfl ?_
          exact M.reti (nx := 88) (by decide +kernel) ⟨by have hm : BA 1 p ≤ 0 := rw_b0 hb8 z72; unfold rwF; simp [hm], rfl⟩
        · refine M.blk (is := [(.aload_n 0, 0, 0, 0), (.getfield 22, 3, 2, 0), (.iload_n 1, 1, 0, 0)]) (pc1 := 80) (lo1 := [(4, .int b8), (0, .ref 100), (1, .int x), (2, .int (nI p)), (3, .int 1)]) (st1 := [.int x, .ref 105]) (w1 := (WX pgC pgL stC (nI sl) PA PS BA BS u)) (by decide +kernel) rfl ?_
          refine M.callVi (as := [.int x]) (st := []) (nx := 83) okX1_addressOf lkX3_84 (x_addressOf x) (by decide +kernel) (by decide) rfl (Nat.le_of_ble_eq_true rfl) rfl (by decide) ?_
          refine M.blk (is := [(.goto 4, 87, 0, 0)]) (pc1 := 87) (lo1 := [(4, .int b8), (0, .ref 100), (1, .int x), (2, .int (nI p)), (3, .int 1)]) (st1 := [.int (adF PA PS x)]) (w1 := (WX pgC pgL stC (nI sl) PA PS BA BS u)) (by decide +kernel) rfl ?_
          exact M.reti (nx := 88) (by decide +kernel) ⟨by have hm : ¬ BA 1 p ≤ 0 := rw_b1 hb8 z72; unfold rwF; simp [hm], rfl⟩
      | 2, hj, hx19 =>
        cases hj
        have hx19 : y = 2 := i32_of hx19 (by decide)
        subst hx19
        refine M.blk (is := [(.iload 4, 4, 0, 0)]) (pc1 := 90) (lo1 := [(4, .int b8), (0, .ref 100), (1, .int x), (2, .int (nI p)), (3, .int 2)]) (st1 := [.int b8]) (w1 := (WX pgC pgL stC (nI sl) PA PS BA BS u)) (by decide +kernel) rfl ?_
        refine M.if_eq (off := 23) (tgt := 113) (nx := 93) (by decide +kernel) (fun z90 => ?_) (fun z90 => ?_)
        · refine M.blk (is := [(.iconst (-1), 0, 0, (-1))]) (pc1 := 114) (lo1 := [(4, .int b8), (0, .ref 100), (1, .int x), (2, .int (nI p)), (3, .int 2)]) (st1 := [.int (-1)]) (w1 := (WX pgC pgL stC (nI sl) PA PS BA BS u)) (by decide +kernel) rfl ?_
          exact M.reti (nx := 115) (by decide +kernel) ⟨by have hm : BA 1 p ≤ 0 := rw_b0 hb8 z90; unfold rwF; simp [hm], rfl⟩
        · refine M.blk (is := [(.aload_n 0, 0, 0, 0), (.getfield 29, 3, 3, 0), (.iload_n 2, 2, 0, 0)]) (pc1 := 98) (lo1 := [(4, .int b8), (0, .ref 100), (1, .int x), (2, .int (nI p)), (3, .int 2)]) (st1 := [.int (nI p), .ref 113]) (w1 := (WX pgC pgL stC (nI sl) PA PS BA BS u)) (by decide +kernel) rfl ?_
          refine M.callVi (as := [.int (nI p)]) (st := []) (nx := 101) okX0_firstReadOf lkX3_206 (x_firstReadOf h8 hn hp) (by decide +kernel) (by decide) rfl (Nat.le_of_ble_eq_true rfl) rfl (by decide) ?_
          refine M.blk (is := [(.aload_n 0, 0, 0, 0), (.getfield 22, 3, 2, 0), (.iload_n 1, 1, 0, 0)]) (pc1 := 106) (lo1 := [(4, .int b8), (0, .ref 100), (1, .int x), (2, .int (nI p)), (3, .int 2)]) (st1 := [.int x, .ref 105, .int (BA 3 p)]) (w1 := (WX pgC pgL stC (nI sl) PA PS BA BS u)) (by decide +kernel) rfl ?_
          refine M.callVi (as := [.int x]) (st := [.int (BA 3 p)]) (nx := 109) okX1_turnedAt lkX3_87 (x_turnedAt x) (by decide +kernel) (by decide) rfl (Nat.le_of_ble_eq_true rfl) rfl (by decide) ?_
          refine M.blk (is := [(.ixor, 0, 0, 0), (.goto 4, 114, 0, 0)]) (pc1 := 114) (lo1 := [(4, .int b8), (0, .ref 100), (1, .int x), (2, .int (nI p)), (3, .int 2)]) (st1 := [.int ((BA 3 p) ^^^ (tuF PA PS x))]) (w1 := (WX pgC pgL stC (nI sl) PA PS BA BS u)) (by decide +kernel) rfl ?_
          exact M.reti (nx := 115) (by decide +kernel) ⟨by have hm : ¬ BA 1 p ≤ 0 := rw_b1 hb8 z90; unfold rwF; simp [hm], rfl⟩
      | 3, hj, hx19 =>
        cases hj
        have hx19 : y = 3 := i32_of hx19 (by decide)
        subst hx19
        refine M.blk (is := [(.aload_n 0, 0, 0, 0), (.getfield 29, 3, 3, 0), (.iload_n 2, 2, 0, 0)]) (pc1 := 120) (lo1 := [(4, .int b8), (0, .ref 100), (1, .int x), (2, .int (nI p)), (3, .int 3)]) (st1 := [.int (nI p), .ref 113]) (w1 := (WX pgC pgL stC (nI sl) PA PS BA BS u)) (by decide +kernel) rfl ?_
        refine M.callVi (as := [.int (nI p)]) (st := []) (nx := 123) okX0_missesOf lkX3_200 (x_missesOf h8 hn hp) (by decide +kernel) (by decide) rfl (Nat.le_of_ble_eq_true rfl) rfl (by decide) ?_
        exact M.reti (nx := 124) (by decide +kernel) ⟨rfl, rfl⟩
      | 4, hj, hx19 =>
        cases hj
        have hx19 : y = 4 := i32_of hx19 (by decide)
        subst hx19
        refine M.blk (is := [(.iload 4, 4, 0, 0)]) (pc1 := 126) (lo1 := [(4, .int b8), (0, .ref 100), (1, .int x), (2, .int (nI p)), (3, .int 4)]) (st1 := [.int b8]) (w1 := (WX pgC pgL stC (nI sl) PA PS BA BS u)) (by decide +kernel) rfl ?_
        refine M.if_eq (off := 7) (tgt := 133) (nx := 129) (by decide +kernel) (fun z126 => ?_) (fun z126 => ?_)
        · refine M.blk (is := [(.iconst 0, 0, 0, 0)]) (pc1 := 134) (lo1 := [(4, .int b8), (0, .ref 100), (1, .int x), (2, .int (nI p)), (3, .int 4)]) (st1 := [.int 0]) (w1 := (WX pgC pgL stC (nI sl) PA PS BA BS u)) (by decide +kernel) rfl ?_
          exact M.reti (nx := 135) (by decide +kernel) ⟨by have hm : BA 1 p ≤ 0 := rw_b0 hb8 z126; unfold rwF; simp [hm], rfl⟩
        · refine M.blk (is := [(.iconst 1, 0, 0, 1), (.goto 4, 134, 0, 0)]) (pc1 := 134) (lo1 := [(4, .int b8), (0, .ref 100), (1, .int x), (2, .int (nI p)), (3, .int 4)]) (st1 := [.int 1]) (w1 := (WX pgC pgL stC (nI sl) PA PS BA BS u)) (by decide +kernel) rfl ?_
          exact M.reti (nx := 135) (by decide +kernel) ⟨by have hm : ¬ BA 1 p ≤ 0 := rw_b1 hb8 z126; unfold rwF; simp [hm], rfl⟩
      | j + 5, hj, _ => exact absurd hj (by simp)
    · refine M.blk (is := [(.aload_n 0, 0, 0, 0)]) (pc1 := 136) (lo1 := [(4, .int b8), (0, .ref 100), (1, .int x), (2, .int (nI p)), (3, .int y)]) (st1 := [.ref 100]) (w1 := (WX pgC pgL stC (nI sl) PA PS BA BS u)) (by decide +kernel) rfl ?_
      refine M.callVi (as := []) (st := []) (nx := 139) okX3_lastBits lkX3_197 (x_lastBits hsl) (by decide +kernel) (by decide) rfl (Nat.le_of_ble_eq_true rfl) rfl (by decide) ?_
      refine M.blk (is := [(.iconst 1, 0, 0, 1), (.iload_n 1, 1, 0, 0), (.ishl, 0, 0, 0), (.iconst (-1), 0, 0, (-1)), (.ixor, 0, 0, 0), (.iand, 0, 0, 0), (.aload_n 0, 0, 0, 0), (.getfield 29, 3, 3, 0), (.iload_n 2, 2, 0, 0)]) (pc1 := 150) (lo1 := [(4, .int b8), (0, .ref 100), (1, .int x), (2, .int (nI p)), (3, .int y)]) (st1 := [.int (nI p), .ref 113, .int ((lbA (((1 : Int32) <<< (PS 9 &&& 31)) - 1) PA stC sl) &&& (((1 : Int32) <<< (x &&& 31)) ^^^ (-1)))]) (w1 := (WX pgC pgL stC (nI sl) PA PS BA BS u)) (by decide +kernel) rfl ?_
      refine M.callVi (as := [.int (nI p)]) (st := [.int ((lbA (((1 : Int32) <<< (PS 9 &&& 31)) - 1) PA stC sl) &&& (((1 : Int32) <<< (x &&& 31)) ^^^ (-1)))]) (nx := 153) okX0_lastBitOf lkX3_209 (x_lastBitOf h8 hn hp) (by decide +kernel) (by decide) rfl (Nat.le_of_ble_eq_true rfl) rfl (by decide) ?_
      refine M.blk (is := [(.iload_n 1, 1, 0, 0), (.ishl, 0, 0, 0), (.ior, 0, 0, 0)]) (pc1 := 156) (lo1 := [(4, .int b8), (0, .ref 100), (1, .int x), (2, .int (nI p)), (3, .int y)]) (st1 := [.int (((lbA (((1 : Int32) <<< (PS 9 &&& 31)) - 1) PA stC sl) &&& (((1 : Int32) <<< (x &&& 31)) ^^^ (-1))) ||| ((BA 0 p) <<< (x &&& 31)))]) (w1 := (WX pgC pgL stC (nI sl) PA PS BA BS u)) (by decide +kernel) rfl ?_
      exact M.reti (nx := 157) (by decide +kernel) ⟨by rw [rw_out hx19], rfl⟩
  refine M.if_le (off := 7) (tgt := 15) (nx := 11) (by decide +kernel) (fun z8 => ?_) (fun z8 => ?_)
  · refine M.blk (is := [(.iconst 0, 0, 0, 0)]) (pc1 := 16) (lo1 := [(0, .ref 100), (1, .int x), (2, .int (nI p)), (3, .int y)]) (st1 := [.int 0]) (w1 := (WX pgC pgL stC (nI sl) PA PS BA BS u)) (by decide +kernel) rfl ?_
    exact j8 _ (if_pos z8).symm
  · refine M.blk (is := [(.iconst 1, 0, 0, 1), (.goto 4, 16, 0, 0)]) (pc1 := 16) (lo1 := [(0, .ref 100), (1, .int x), (2, .int (nI p)), (3, .int y)]) (st1 := [.int 1]) (w1 := (WX pgC pgL stC (nI sl) PA PS BA BS u)) (by decide +kernel) rfl ?_
    exact j8 _ (if_neg z8).symm
def fltN (r c N : Nat) : Bool := decide (N / 1000 < r * c) && isPt (N % 1000 / 300) (N % 1000 % 300) (thr r c (N / 1000))
theorem x_isFault {sl : Nat} {r c f h t : Nat} (hgeo : GeoOk r c f h t) (hpl : PlOk r c f h t PA PS) {N : Nat} (hN : N < 2147483648) : CC 2 mX3_isFault 0 0 [.ref 100, .int (nI N), .int (nI (N / 1000)), .int (nI (N % 1000 / 300)), .int (nI (N % 1000 % 300))] (WX pgC pgL stC (nI sl) PA PS BA BS u) (Rt (b2i (fltN r c N)) (WX pgC pgL stC (nI sl) PA PS BA BS u)) := by
  have h25 : r * c ≤ 25 := Nat.mul_le_mul hgeo.1.2 hgeo.2.1.2
  have h9a : 9 ≤ r * c := Nat.mul_le_mul hgeo.1.1 hgeo.2.1.1
  refine CC.of okX3_isFault.1 (Nat.le_of_ble_eq_true rfl) (fun g M => ?_)
  show g 0 0 0 [(0, .ref 100), (1, .int (nI N)), (2, .int (nI (N / 1000))), (3, .int (nI (N % 1000 / 300))), (4, .int (nI (N % 1000 % 300)))] [] (WX pgC pgL stC (nI sl) PA PS BA BS u)
  refine M.blk (is := [(.iload_n 1, 1, 0, 0)]) (pc1 := 1) (lo1 := [(0, .ref 100), (1, .int (nI N)), (2, .int (nI (N / 1000))), (3, .int (nI (N % 1000 / 300))), (4, .int (nI (N % 1000 % 300)))]) (st1 := [.int (nI N)]) (w1 := (WX pgC pgL stC (nI sl) PA PS BA BS u)) (by decide +kernel) rfl ?_
  refine M.if_lt (off := 35) (tgt := 36) (nx := 4) (by decide +kernel) (fun z1 => by exfalso; exact nI_pos (by omega) z1) (fun z1 => ?_)
  refine M.blk (is := [(.aload_n 0, 0, 0, 0), (.getfield 22, 3, 2, 0), (.iload_n 2, 2, 0, 0)]) (pc1 := 9) (lo1 := [(0, .ref 100), (1, .int (nI N)), (2, .int (nI (N / 1000))), (3, .int (nI (N % 1000 / 300))), (4, .int (nI (N % 1000 % 300)))]) (st1 := [.int (nI (N / 1000)), .ref 105]) (w1 := (WX pgC pgL stC (nI sl) PA PS BA BS u)) (by decide +kernel) rfl ?_
  refine M.callVi (as := [.int (nI (N / 1000))]) (st := []) (nx := 12) okX1_has lkX3_78 (x_has (nI (N / 1000))) (by decide +kernel) (by decide) rfl (Nat.le_of_ble_eq_true rfl) rfl (by decide) ?_
  have hcs := hasF_cases PS (nI (N / 1000)) hpl.1.2.2.1 h25
  refine M.if_eq (off := 24) (tgt := 36) (nx := 15) (by decide +kernel) (fun z12 => ?_) (fun z12 => ?_)
  · refine M.blk (is := [(.iconst 0, 0, 0, 0)]) (pc1 := 37) (lo1 := [(0, .ref 100), (1, .int (nI N)), (2, .int (nI (N / 1000))), (3, .int (nI (N % 1000 / 300))), (4, .int (nI (N % 1000 % 300)))]) (st1 := [.int 0]) (w1 := (WX pgC pgL stC (nI sl) PA PS BA BS u)) (by decide +kernel) rfl ?_
    exact M.retz (nx := 38) (by decide +kernel) (by decide) ⟨by rw [fltN, decide_eq_false (fun h => by rw [hasF_nI hpl.1.2.2.1 h25 h] at z12; exact absurd z12 (by decide))]; rfl, rfl⟩
  · have hlt : N / 1000 < r * c := by
      rcases hcs with ⟨e, _⟩ | ⟨_, k, hk, e⟩
      · exact absurd e z12
      · rw [nI_inj (by omega) (by omega) e]; exact hk
    refine M.blk (is := [(.iload_n 3, 3, 0, 0), (.iload 4, 4, 0, 0), (.aload_n 0, 0, 0, 0), (.getfield 22, 3, 2, 0), (.iload_n 2, 2, 0, 0)]) (pc1 := 23) (lo1 := [(0, .ref 100), (1, .int (nI N)), (2, .int (nI (N / 1000))), (3, .int (nI (N % 1000 / 300))), (4, .int (nI (N % 1000 % 300)))]) (st1 := [.int (nI (N / 1000)), .ref 105, .int (nI (N % 1000 % 300)), .int (nI (N % 1000 / 300))]) (w1 := (WX pgC pgL stC (nI sl) PA PS BA BS u)) (by decide +kernel) rfl ?_
    refine M.callVi (as := [.int (nI (N / 1000))]) (st := [.int (nI (N % 1000 % 300)), .int (nI (N % 1000 / 300))]) (nx := 26) okX1_there lkX3_188 (x_there (nI (N / 1000))) (by decide +kernel) (by decide) rfl (Nat.le_of_ble_eq_true rfl) rfl (by decide) ?_
    rw [pl_th hpl h25 hlt]
    refine M.callSi (as := [.int (nI (N % 1000 / 300)), .int (nI (N % 1000 % 300)), .int (nI (thr r c (N / 1000)))]) (st := []) (nx := 29) okX3_isPart lkX3_191 (s_isPart (WX pgC pgL stC (nI sl) PA PS BA BS u) (κ := N % 1000 / 300) (p := N % 1000 % 300) (th := thr r c (N / 1000)) (by omega) (by omega) (thr_lt _ _ _)) (by decide +kernel) (by decide) rfl (Nat.le_of_ble_eq_true rfl) ?_
    refine M.if_eq (off := 7) (tgt := 36) (nx := 32) (by decide +kernel) (fun z29 => ?_) (fun z29 => ?_)
    · refine M.blk (is := [(.iconst 0, 0, 0, 0)]) (pc1 := 37) (lo1 := [(0, .ref 100), (1, .int (nI N)), (2, .int (nI (N / 1000))), (3, .int (nI (N % 1000 / 300))), (4, .int (nI (N % 1000 % 300)))]) (st1 := [.int 0]) (w1 := (WX pgC pgL stC (nI sl) PA PS BA BS u)) (by decide +kernel) rfl ?_
      exact M.retz (nx := 38) (by decide +kernel) (by decide) ⟨by rw [fltN, decide_eq_true hlt, Bool.true_and, z29], rfl⟩
    · refine M.blk (is := [(.iconst 1, 0, 0, 1), (.goto 4, 37, 0, 0)]) (pc1 := 37) (lo1 := [(0, .ref 100), (1, .int (nI N)), (2, .int (nI (N / 1000))), (3, .int (nI (N % 1000 / 300))), (4, .int (nI (N % 1000 % 300)))]) (st1 := [.int 1]) (w1 := (WX pgC pgL stC (nI sl) PA PS BA BS u)) (by decide +kernel) rfl ?_
      exact M.retz (nx := 38) (by decide +kernel) (by decide) ⟨by rw [fltN, decide_eq_true hlt, Bool.true_and, b2i_t z29]; rfl, rfl⟩
def outY (y n : Int32) : Prop := y < 0 ∨ n < y
theorem x_run_none {sl : Nat} (hsl : sl ≤ 64) (y : Int32) : CC 4 mX3_run 0 0 [.ref 100, .int (-1), .int y] (WX pgC pgL stC (nI sl) PA PS BA BS u) (fun r0 w1 => w1 = (WX pgC pgL stC (nI sl) PA PS BA BS u) ∧ ((outY y 5 ∧ r0 = some (.int (-1002))) ∨ (¬ outY y 5 ∧ r0 = some (.int (rwoF (lbA (((1 : Int32) <<< (PS 9 &&& 31)) - 1) PA stC sl) y))))) := by
  refine CC.of okX3_run.1 (Nat.le_of_ble_eq_true rfl) (fun g M => ?_)
  show g 0 0 0 [(0, .ref 100), (1, .int (-1)), (2, .int y)] [] (WX pgC pgL stC (nI sl) PA PS BA BS u)
  refine M.blk (is := [(.iload_n 1, 1, 0, 0), (.sipush 1000, 0, 0, 1000)]) (pc1 := 4) (lo1 := [(0, .ref 100), (1, .int (-1)), (2, .int y)]) (st1 := [.int 1000, .int (-1)]) (w1 := (WX pgC pgL stC (nI sl) PA PS BA BS u)) (by decide +kernel) rfl ?_
  refine M.idv (nx := 5) (by decide +kernel) (by decide) ?_
  refine M.blk (is := [(.istore_n 3, 3, 0, 0), (.iload_n 1, 1, 0, 0), (.sipush 1000, 0, 0, 1000)]) (pc1 := 10) (lo1 := [(3, .int ((-1) / 1000)), (0, .ref 100), (1, .int (-1)), (2, .int y)]) (st1 := [.int 1000, .int (-1)]) (w1 := (WX pgC pgL stC (nI sl) PA PS BA BS u)) (by decide +kernel) rfl ?_
  refine M.irm (nx := 11) (by decide +kernel) (by decide) ?_
  refine M.blk (is := [(.sipush 300, 0, 0, 300)]) (pc1 := 14) (lo1 := [(3, .int ((-1) / 1000)), (0, .ref 100), (1, .int (-1)), (2, .int y)]) (st1 := [.int 300, .int (jrem (-1) 1000)]) (w1 := (WX pgC pgL stC (nI sl) PA PS BA BS u)) (by decide +kernel) rfl ?_
  refine M.idv (nx := 15) (by decide +kernel) (by decide) ?_
  refine M.blk (is := [(.istore 4, 4, 0, 0), (.iload_n 1, 1, 0, 0), (.sipush 1000, 0, 0, 1000)]) (pc1 := 21) (lo1 := [(4, .int ((jrem (-1) 1000) / 300)), (3, .int ((-1) / 1000)), (0, .ref 100), (1, .int (-1)), (2, .int y)]) (st1 := [.int 1000, .int (-1)]) (w1 := (WX pgC pgL stC (nI sl) PA PS BA BS u)) (by decide +kernel) rfl ?_
  refine M.irm (nx := 22) (by decide +kernel) (by decide) ?_
  refine M.blk (is := [(.sipush 300, 0, 0, 300)]) (pc1 := 25) (lo1 := [(4, .int ((jrem (-1) 1000) / 300)), (3, .int ((-1) / 1000)), (0, .ref 100), (1, .int (-1)), (2, .int y)]) (st1 := [.int 300, .int (jrem (-1) 1000)]) (w1 := (WX pgC pgL stC (nI sl) PA PS BA BS u)) (by decide +kernel) rfl ?_
  refine M.irm (nx := 26) (by decide +kernel) (by decide) ?_
  refine M.blk (is := [(.istore 5, 5, 0, 0), (.iload_n 1, 1, 0, 0), (.iconst (-1), 0, 0, (-1))]) (pc1 := 30) (lo1 := [(5, .int (jrem (jrem (-1) 1000) 300)), (4, .int ((jrem (-1) 1000) / 300)), (3, .int ((-1) / 1000)), (0, .ref 100), (1, .int (-1)), (2, .int y)]) (st1 := [.int (-1), .int (-1)]) (w1 := (WX pgC pgL stC (nI sl) PA PS BA BS u)) (by decide +kernel) rfl ?_
  refine M.icmp_eq (off := 20) (tgt := 50) (nx := 33) (by decide +kernel) (fun _ => ?_) (fun h => absurd h (by decide))
  refine M.blk (is := [(.iload_n 2, 2, 0, 0)]) (pc1 := 51) (lo1 := [(5, .int (jrem (jrem (-1) 1000) 300)), (4, .int ((jrem (-1) 1000) / 300)), (3, .int ((-1) / 1000)), (0, .ref 100), (1, .int (-1)), (2, .int y)]) (st1 := [.int y]) (w1 := (WX pgC pgL stC (nI sl) PA PS BA BS u)) (by decide +kernel) rfl ?_
  refine M.if_lt (off := 8) (tgt := 59) (nx := 54) (by decide +kernel) (fun z51 => ?_) (fun z51 => ?_)
  · refine M.blk (is := [(.sipush (-1002), 0, 0, (-1002))]) (pc1 := 62) (lo1 := [(5, .int (jrem (jrem (-1) 1000) 300)), (4, .int ((jrem (-1) 1000) / 300)), (3, .int ((-1) / 1000)), (0, .ref 100), (1, .int (-1)), (2, .int y)]) (st1 := [.int (-1002)]) (w1 := (WX pgC pgL stC (nI sl) PA PS BA BS u)) (by decide +kernel) rfl ?_
    exact M.reti (nx := 63) (by decide +kernel) ⟨rfl, Or.inl ⟨Or.inl z51, rfl⟩⟩
  · refine M.blk (is := [(.iload_n 2, 2, 0, 0), (.iconst 5, 0, 0, 5)]) (pc1 := 56) (lo1 := [(5, .int (jrem (jrem (-1) 1000) 300)), (4, .int ((jrem (-1) 1000) / 300)), (3, .int ((-1) / 1000)), (0, .ref 100), (1, .int (-1)), (2, .int y)]) (st1 := [.int 5, .int y]) (w1 := (WX pgC pgL stC (nI sl) PA PS BA BS u)) (by decide +kernel) rfl ?_
    refine M.icmp_le (off := 7) (tgt := 63) (nx := 59) (by decide +kernel) (fun z56 => ?_) (fun z56 => ?_)
    · refine M.blk (is := [(.iload_n 1, 1, 0, 0), (.iconst (-1), 0, 0, (-1))]) (pc1 := 65) (lo1 := [(5, .int (jrem (jrem (-1) 1000) 300)), (4, .int ((jrem (-1) 1000) / 300)), (3, .int ((-1) / 1000)), (0, .ref 100), (1, .int (-1)), (2, .int y)]) (st1 := [.int (-1), .int (-1)]) (w1 := (WX pgC pgL stC (nI sl) PA PS BA BS u)) (by decide +kernel) rfl ?_
      refine M.icmp_ne (off := 9) (tgt := 74) (nx := 68) (by decide +kernel) (fun h => absurd h (by decide)) (fun _ => ?_)
      refine M.blk (is := [(.aload_n 0, 0, 0, 0), (.iload_n 2, 2, 0, 0)]) (pc1 := 70) (lo1 := [(5, .int (jrem (jrem (-1) 1000) 300)), (4, .int ((jrem (-1) 1000) / 300)), (3, .int ((-1) / 1000)), (0, .ref 100), (1, .int (-1)), (2, .int y)]) (st1 := [.int y, .ref 100]) (w1 := (WX pgC pgL stC (nI sl) PA PS BA BS u)) (by decide +kernel) rfl ?_
      refine M.callVi (as := [.int y]) (st := []) (nx := 73) okX3_runWithout lkX3_98 (x_runWithout hsl y) (by decide +kernel) (by decide) rfl (Nat.le_of_ble_eq_true rfl) rfl (by decide) ?_
      exact M.reti (nx := 74) (by decide +kernel) ⟨rfl, Or.inr ⟨fun e => e.elim z51 (fun e => i32_nlt e z56), rfl⟩⟩
    · refine M.blk (is := [(.sipush (-1002), 0, 0, (-1002))]) (pc1 := 62) (lo1 := [(5, .int (jrem (jrem (-1) 1000) 300)), (4, .int ((jrem (-1) 1000) / 300)), (3, .int ((-1) / 1000)), (0, .ref 100), (1, .int (-1)), (2, .int y)]) (st1 := [.int (-1002)]) (w1 := (WX pgC pgL stC (nI sl) PA PS BA BS u)) (by decide +kernel) rfl ?_
      exact M.reti (nx := 63) (by decide +kernel) ⟨rfl, Or.inl ⟨Or.inr (i32_nle z56), rfl⟩⟩
theorem x_isFault_neg {sl : Nat} {F a b e : Int32} (hF : F < 0) : CC 2 mX3_isFault 0 0 [.ref 100, .int F, .int a, .int b, .int e] (WX pgC pgL stC (nI sl) PA PS BA BS u) (Rt 0 (WX pgC pgL stC (nI sl) PA PS BA BS u)) := by
  refine CC.of okX3_isFault.1 (Nat.le_of_ble_eq_true rfl) (fun g M => ?_)
  show g 0 0 0 [(0, .ref 100), (1, .int F), (2, .int a), (3, .int b), (4, .int e)] [] (WX pgC pgL stC (nI sl) PA PS BA BS u)
  refine M.blk (is := [(.iload_n 1, 1, 0, 0)]) (pc1 := 1) (lo1 := [(0, .ref 100), (1, .int F), (2, .int a), (3, .int b), (4, .int e)]) (st1 := [.int F]) (w1 := (WX pgC pgL stC (nI sl) PA PS BA BS u)) (by decide +kernel) rfl ?_
  refine M.if_lt (off := 35) (tgt := 36) (nx := 4) (by decide +kernel) (fun z1 => ?_) (fun z1 => by exfalso; exact z1 hF)
  refine M.blk (is := [(.iconst 0, 0, 0, 0)]) (pc1 := 37) (lo1 := [(0, .ref 100), (1, .int F), (2, .int a), (3, .int b), (4, .int e)]) (st1 := [.int 0]) (w1 := (WX pgC pgL stC (nI sl) PA PS BA BS u)) (by decide +kernel) rfl ?_
  exact M.retz (nx := 38) (by decide +kernel) (by decide) ⟨rfl, rfl⟩
theorem x_run_neg {sl : Nat} {F : Int32} (hF : F < 0) (h1 : ¬ F = -1) (y : Int32) : CC 4 mX3_run 0 0 [.ref 100, .int F, .int y] (WX pgC pgL stC (nI sl) PA PS BA BS u) (Rt (-1001) (WX pgC pgL stC (nI sl) PA PS BA BS u)) := by
  refine CC.of okX3_run.1 (Nat.le_of_ble_eq_true rfl) (fun g M => ?_)
  show g 0 0 0 [(0, .ref 100), (1, .int F), (2, .int y)] [] (WX pgC pgL stC (nI sl) PA PS BA BS u)
  refine M.blk (is := [(.iload_n 1, 1, 0, 0), (.sipush 1000, 0, 0, 1000)]) (pc1 := 4) (lo1 := [(0, .ref 100), (1, .int F), (2, .int y)]) (st1 := [.int 1000, .int F]) (w1 := (WX pgC pgL stC (nI sl) PA PS BA BS u)) (by decide +kernel) rfl ?_
  refine M.idv (nx := 5) (by decide +kernel) (by decide) ?_
  refine M.blk (is := [(.istore_n 3, 3, 0, 0), (.iload_n 1, 1, 0, 0), (.sipush 1000, 0, 0, 1000)]) (pc1 := 10) (lo1 := [(3, .int (F / 1000)), (0, .ref 100), (1, .int F), (2, .int y)]) (st1 := [.int 1000, .int F]) (w1 := (WX pgC pgL stC (nI sl) PA PS BA BS u)) (by decide +kernel) rfl ?_
  refine M.irm (nx := 11) (by decide +kernel) (by decide) ?_
  refine M.blk (is := [(.sipush 300, 0, 0, 300)]) (pc1 := 14) (lo1 := [(3, .int (F / 1000)), (0, .ref 100), (1, .int F), (2, .int y)]) (st1 := [.int 300, .int (jrem F 1000)]) (w1 := (WX pgC pgL stC (nI sl) PA PS BA BS u)) (by decide +kernel) rfl ?_
  refine M.idv (nx := 15) (by decide +kernel) (by decide) ?_
  refine M.blk (is := [(.istore 4, 4, 0, 0), (.iload_n 1, 1, 0, 0), (.sipush 1000, 0, 0, 1000)]) (pc1 := 21) (lo1 := [(4, .int ((jrem F 1000) / 300)), (3, .int (F / 1000)), (0, .ref 100), (1, .int F), (2, .int y)]) (st1 := [.int 1000, .int F]) (w1 := (WX pgC pgL stC (nI sl) PA PS BA BS u)) (by decide +kernel) rfl ?_
  refine M.irm (nx := 22) (by decide +kernel) (by decide) ?_
  refine M.blk (is := [(.sipush 300, 0, 0, 300)]) (pc1 := 25) (lo1 := [(4, .int ((jrem F 1000) / 300)), (3, .int (F / 1000)), (0, .ref 100), (1, .int F), (2, .int y)]) (st1 := [.int 300, .int (jrem F 1000)]) (w1 := (WX pgC pgL stC (nI sl) PA PS BA BS u)) (by decide +kernel) rfl ?_
  refine M.irm (nx := 26) (by decide +kernel) (by decide) ?_
  refine M.blk (is := [(.istore 5, 5, 0, 0), (.iload_n 1, 1, 0, 0), (.iconst (-1), 0, 0, (-1))]) (pc1 := 30) (lo1 := [(5, .int (jrem (jrem F 1000) 300)), (4, .int ((jrem F 1000) / 300)), (3, .int (F / 1000)), (0, .ref 100), (1, .int F), (2, .int y)]) (st1 := [.int (-1), .int F]) (w1 := (WX pgC pgL stC (nI sl) PA PS BA BS u)) (by decide +kernel) rfl ?_
  refine M.icmp_eq (off := 20) (tgt := 50) (nx := 33) (by decide +kernel) (fun z30 => by exfalso; exact h1 z30) (fun z30 => ?_)
  refine M.blk (is := [(.aload_n 0, 0, 0, 0), (.iload_n 1, 1, 0, 0), (.iload_n 3, 3, 0, 0), (.iload 4, 4, 0, 0), (.iload 5, 5, 0, 0)]) (pc1 := 40) (lo1 := [(5, .int (jrem (jrem F 1000) 300)), (4, .int ((jrem F 1000) / 300)), (3, .int (F / 1000)), (0, .ref 100), (1, .int F), (2, .int y)]) (st1 := [.int (jrem (jrem F 1000) 300), .int ((jrem F 1000) / 300), .int (F / 1000), .int F, .ref 100]) (w1 := (WX pgC pgL stC (nI sl) PA PS BA BS u)) (by decide +kernel) rfl ?_
  refine M.callVi (as := [.int F, .int (F / 1000), .int ((jrem F 1000) / 300), .int (jrem (jrem F 1000) 300)]) (st := []) (nx := 43) okX3_isFault lkX3_94 (x_isFault_neg hF) (by decide +kernel) (by decide) rfl (Nat.le_of_ble_eq_true rfl) rfl (by decide) ?_
  refine M.if_ne (off := 7) (tgt := 50) (nx := 46) (by decide +kernel) (fun h => absurd h (by decide)) (fun _ => ?_)
  refine M.blk (is := [(.sipush (-1001), 0, 0, (-1001))]) (pc1 := 49) (lo1 := [(5, .int (jrem (jrem F 1000) 300)), (4, .int ((jrem F 1000) / 300)), (3, .int (F / 1000)), (0, .ref 100), (1, .int F), (2, .int y)]) (st1 := [.int (-1001)]) (w1 := (WX pgC pgL stC (nI sl) PA PS BA BS u)) (by decide +kernel) rfl ?_
  exact M.reti (nx := 50) (by decide +kernel) ⟨rfl, rfl⟩
theorem nI_n1 {N : Nat} (h : N < 2147483648) : ¬ nI N = -1 := by
  intro e
  have h1 := congrArg Int32.toInt e
  rw [nI_toInt h] at h1
  have h2 : (-1 : Int32).toInt = -1 := by decide
  omega
theorem rw_of {PA : Nat → Nat → Int32} {PS C : Nat → Int32} {sl κ p : Nat} {x lb ad tu x1 y : Int32} {BA : Nat → Nat → Int32} {BS : Nat → Int32} (h : BnR PA PS C sl κ x BA BS) (hp : p < ptsN κ) : rwF (BA 1 p) (BA 2 p) (BA 3 p) (BA 0 p) lb ad tu x1 y = rwF (smS κ p (smT PA PS x) C sl).2.2.2.2.1 (smS κ p (smT PA PS x) C sl).2.2.2.2.2.1 (smS κ p (smT PA PS x) C sl).2.2.2.2.2.2 (smS κ p (smT PA PS x) C sl).2.2.2.1 lb ad tu x1 y := by
  obtain ⟨-, hbr, -, -, hpp⟩ := h
  obtain ⟨h1, h2⟩ := hpp p hp
  have h0 : BA 0 p = (smS κ p (smT PA PS x) C sl).2.2.2.1 := hbr.2 p hp
  rw [h0, h1]
  by_cases hm : (smS κ p (smT PA PS x) C sl).2.2.2.2.1 = 0
  · rw [hm]
    unfold rwF
    simp
  · rw [(h2 hm).1, (h2 hm).2]
theorem x_run_num {sl : Nat} (hsl : sl ≤ 64) {r c f h t : Nat} (hgeo : GeoOk r c f h t) (hpl : PlOk r c f h t PA PS) (hbn : BnOk PA PS stC sl BA BS) {N : Nat} (hN : N < 2147483648) (y : Int32) : CC 4 mX3_run 0 0 [.ref 100, .int (nI N), .int y] (WX pgC pgL stC (nI sl) PA PS BA BS u) (fun r0 w1 => (fltN r c N = false ∧ r0 = some (.int (-1001)) ∧ w1 = (WX pgC pgL stC (nI sl) PA PS BA BS u)) ∨ (fltN r c N = true ∧ outY y 5 ∧ r0 = some (.int (-1002)) ∧ w1 = (WX pgC pgL stC (nI sl) PA PS BA BS u)) ∨ (fltN r c N = true ∧ ¬ outY y 5 ∧ r0 = some (.int (rwF (smS (N % 1000 / 300) (N % 1000 % 300) (tauG r c (N / 1000)) stC sl).2.2.2.2.1 (smS (N % 1000 / 300) (N % 1000 % 300) (tauG r c (N / 1000)) stC sl).2.2.2.2.2.1 (smS (N % 1000 / 300) (N % 1000 % 300) (tauG r c (N / 1000)) stC sl).2.2.2.2.2.2 (smS (N % 1000 / 300) (N % 1000 % 300) (tauG r c (N / 1000)) stC sl).2.2.2.1 (lbA (((1 : Int32) <<< (PS 9 &&& 31)) - 1) PA stC sl) (adF PA PS (nI (N / 1000))) (tuF PA PS (nI (N / 1000))) (nI (N / 1000)) y)) ∧ ∃ BB BT, w1 = WX pgC pgL stC (nI sl) PA PS BB BT u ∧ BnOk PA PS stC sl BB BT)) := by
  have h25 : r * c ≤ 25 := Nat.mul_le_mul hgeo.1.2 hgeo.2.1.2
  have h9a : 9 ≤ r * c := Nat.mul_le_mul hgeo.1.1 hgeo.2.1.1
  refine CC.of okX3_run.1 (Nat.le_of_ble_eq_true rfl) (fun g M => ?_)
  show g 0 0 0 [(0, .ref 100), (1, .int (nI N)), (2, .int y)] [] (WX pgC pgL stC (nI sl) PA PS BA BS u)
  refine M.blk (is := [(.iload_n 1, 1, 0, 0), (.sipush 1000, 0, 0, 1000)]) (pc1 := 4) (lo1 := [(0, .ref 100), (1, .int (nI N)), (2, .int y)]) (st1 := [.int 1000, .int (nI N)]) (w1 := (WX pgC pgL stC (nI sl) PA PS BA BS u)) (by decide +kernel) rfl ?_
  refine M.idv (nx := 5) (by decide +kernel) (by decide) ?_
  rw [show nI N / 1000 = nI (N / 1000) from pk_div (a := N) (d := 1000) hN (by decide) (by decide)]
  refine M.blk (is := [(.istore_n 3, 3, 0, 0), (.iload_n 1, 1, 0, 0), (.sipush 1000, 0, 0, 1000)]) (pc1 := 10) (lo1 := [(3, .int (nI (N / 1000))), (0, .ref 100), (1, .int (nI N)), (2, .int y)]) (st1 := [.int 1000, .int (nI N)]) (w1 := (WX pgC pgL stC (nI sl) PA PS BA BS u)) (by decide +kernel) rfl ?_
  refine M.irm (nx := 11) (by decide +kernel) (by decide) ?_
  rw [show jrem (nI N) 1000 = nI (N % 1000) from hf_rem (d := 1000) hN (by decide) (by decide)]
  refine M.blk (is := [(.sipush 300, 0, 0, 300)]) (pc1 := 14) (lo1 := [(3, .int (nI (N / 1000))), (0, .ref 100), (1, .int (nI N)), (2, .int y)]) (st1 := [.int 300, .int (nI (N % 1000))]) (w1 := (WX pgC pgL stC (nI sl) PA PS BA BS u)) (by decide +kernel) rfl ?_
  refine M.idv (nx := 15) (by decide +kernel) (by decide) ?_
  rw [show nI (N % 1000) / 300 = nI (N % 1000 / 300) from pk_div (a := N % 1000) (d := 300) (by omega) (by decide) (by decide)]
  refine M.blk (is := [(.istore 4, 4, 0, 0), (.iload_n 1, 1, 0, 0), (.sipush 1000, 0, 0, 1000)]) (pc1 := 21) (lo1 := [(4, .int (nI (N % 1000 / 300))), (3, .int (nI (N / 1000))), (0, .ref 100), (1, .int (nI N)), (2, .int y)]) (st1 := [.int 1000, .int (nI N)]) (w1 := (WX pgC pgL stC (nI sl) PA PS BA BS u)) (by decide +kernel) rfl ?_
  refine M.irm (nx := 22) (by decide +kernel) (by decide) ?_
  rw [show jrem (nI N) 1000 = nI (N % 1000) from hf_rem (d := 1000) hN (by decide) (by decide)]
  refine M.blk (is := [(.sipush 300, 0, 0, 300)]) (pc1 := 25) (lo1 := [(4, .int (nI (N % 1000 / 300))), (3, .int (nI (N / 1000))), (0, .ref 100), (1, .int (nI N)), (2, .int y)]) (st1 := [.int 300, .int (nI (N % 1000))]) (w1 := (WX pgC pgL stC (nI sl) PA PS BA BS u)) (by decide +kernel) rfl ?_
  refine M.irm (nx := 26) (by decide +kernel) (by decide) ?_
  rw [show jrem (nI (N % 1000)) 300 = nI (N % 1000 % 300) from hf_rem (d := 300) (by omega) (by decide) (by decide)]
  refine M.blk (is := [(.istore 5, 5, 0, 0), (.iload_n 1, 1, 0, 0), (.iconst (-1), 0, 0, (-1))]) (pc1 := 30) (lo1 := [(5, .int (nI (N % 1000 % 300))), (4, .int (nI (N % 1000 / 300))), (3, .int (nI (N / 1000))), (0, .ref 100), (1, .int (nI N)), (2, .int y)]) (st1 := [.int (-1), .int (nI N)]) (w1 := (WX pgC pgL stC (nI sl) PA PS BA BS u)) (by decide +kernel) rfl ?_
  refine M.icmp_eq (off := 20) (tgt := 50) (nx := 33) (by decide +kernel) (fun z30 => by exfalso; exact nI_n1 hN z30) (fun z30 => ?_)
  refine M.blk (is := [(.aload_n 0, 0, 0, 0), (.iload_n 1, 1, 0, 0), (.iload_n 3, 3, 0, 0), (.iload 4, 4, 0, 0), (.iload 5, 5, 0, 0)]) (pc1 := 40) (lo1 := [(5, .int (nI (N % 1000 % 300))), (4, .int (nI (N % 1000 / 300))), (3, .int (nI (N / 1000))), (0, .ref 100), (1, .int (nI N)), (2, .int y)]) (st1 := [.int (nI (N % 1000 % 300)), .int (nI (N % 1000 / 300)), .int (nI (N / 1000)), .int (nI N), .ref 100]) (w1 := (WX pgC pgL stC (nI sl) PA PS BA BS u)) (by decide +kernel) rfl ?_
  refine M.callVi (as := [.int (nI N), .int (nI (N / 1000)), .int (nI (N % 1000 / 300)), .int (nI (N % 1000 % 300))]) (st := []) (nx := 43) okX3_isFault lkX3_94 (x_isFault hgeo hpl hN) (by decide +kernel) (by decide) rfl (Nat.le_of_ble_eq_true rfl) rfl (by decide) ?_
  refine M.if_ne (off := 7) (tgt := 50) (nx := 46) (by decide +kernel) (fun z43 => ?_) (fun z43 => ?_)
  · refine M.blk (is := [(.iload_n 2, 2, 0, 0)]) (pc1 := 51) (lo1 := [(5, .int (nI (N % 1000 % 300))), (4, .int (nI (N % 1000 / 300))), (3, .int (nI (N / 1000))), (0, .ref 100), (1, .int (nI N)), (2, .int y)]) (st1 := [.int y]) (w1 := (WX pgC pgL stC (nI sl) PA PS BA BS u)) (by decide +kernel) rfl ?_
    refine M.if_lt (off := 8) (tgt := 59) (nx := 54) (by decide +kernel) (fun z51 => ?_) (fun z51 => ?_)
    · refine M.blk (is := [(.sipush (-1002), 0, 0, (-1002))]) (pc1 := 62) (lo1 := [(5, .int (nI (N % 1000 % 300))), (4, .int (nI (N % 1000 / 300))), (3, .int (nI (N / 1000))), (0, .ref 100), (1, .int (nI N)), (2, .int y)]) (st1 := [.int (-1002)]) (w1 := (WX pgC pgL stC (nI sl) PA PS BA BS u)) (by decide +kernel) rfl ?_
      exact M.reti (nx := 63) (by decide +kernel) (Or.inr (Or.inl ⟨b2i_t z43, Or.inl z51, rfl, rfl⟩))
    · refine M.blk (is := [(.iload_n 2, 2, 0, 0), (.iconst 5, 0, 0, 5)]) (pc1 := 56) (lo1 := [(5, .int (nI (N % 1000 % 300))), (4, .int (nI (N % 1000 / 300))), (3, .int (nI (N / 1000))), (0, .ref 100), (1, .int (nI N)), (2, .int y)]) (st1 := [.int 5, .int y]) (w1 := (WX pgC pgL stC (nI sl) PA PS BA BS u)) (by decide +kernel) rfl ?_
      refine M.icmp_le (off := 7) (tgt := 63) (nx := 59) (by decide +kernel) (fun z56 => ?_) (fun z56 => ?_)
      · refine M.blk (is := [(.iload_n 1, 1, 0, 0), (.iconst (-1), 0, 0, (-1))]) (pc1 := 65) (lo1 := [(5, .int (nI (N % 1000 % 300))), (4, .int (nI (N % 1000 / 300))), (3, .int (nI (N / 1000))), (0, .ref 100), (1, .int (nI N)), (2, .int y)]) (st1 := [.int (-1), .int (nI N)]) (w1 := (WX pgC pgL stC (nI sl) PA PS BA BS u)) (by decide +kernel) rfl ?_
        refine M.icmp_ne (off := 9) (tgt := 74) (nx := 68) (by decide +kernel) (fun z65 => ?_) (fun z65 => by exfalso; exact nI_n1 hN z65)
        have hft := b2i_t z43
        have hft2 := hft
        unfold fltN at hft2
        rw [Bool.and_eq_true] at hft2
        have hk := of_decide_eq_true hft2.1
        have hpp := isPt_lt hft2.2
        have hκ : N % 1000 / 300 < 3 := pts_lt3 hpp (by omega)
        refine M.blk (is := [(.aload_n 0, 0, 0, 0), (.getfield 29, 3, 3, 0), (.aload_n 0, 0, 0, 0), (.getfield 22, 3, 2, 0), (.aload_n 0, 0, 0, 0), (.getfield 16, 3, 1, 0), (.iload_n 3, 3, 0, 0), (.iload 4, 4, 0, 0)]) (pc1 := 89) (lo1 := [(5, .int (nI (N % 1000 % 300))), (4, .int (nI (N % 1000 / 300))), (3, .int (nI (N / 1000))), (0, .ref 100), (1, .int (nI N)), (2, .int y)]) (st1 := [.int (nI (N % 1000 / 300)), .int (nI (N / 1000)), .ref 103, .ref 105, .ref 113]) (w1 := (WX pgC pgL stC (nI sl) PA PS BA BS u)) (by decide +kernel) rfl ?_
        rw [← kI_nI hκ]
        refine M.callV (as := [.ref 105, .ref 103, .int (nI (N / 1000)), .int (kI (N % 1000 / 300))]) (st := []) (nx := 92) okX0_work lkX3_101 (x_work hsl (by omega) hbn (nI (N / 1000))) (by decide +kernel) (by decide) rfl (Nat.le_of_ble_eq_true rfl) rfl (by decide) ⟨by decide, by decide⟩ ?_
        intro r0 w1 hq
        obtain ⟨rfl, BB, BT, rfl, hR⟩ := hq
        show g 0 0 92 [(5, .int (nI (N % 1000 % 300))), (4, .int (kI (N % 1000 / 300))), (3, .int (nI (N / 1000))), (0, .ref 100), (1, .int (nI N)), (2, .int y)] [] (WX pgC pgL stC (nI sl) PA PS BB BT u)
        refine M.blk (is := [(.aload_n 0, 0, 0, 0), (.iload_n 3, 3, 0, 0), (.iload 5, 5, 0, 0), (.iload_n 2, 2, 0, 0)]) (pc1 := 97) (lo1 := [(5, .int (nI (N % 1000 % 300))), (4, .int (kI (N % 1000 / 300))), (3, .int (nI (N / 1000))), (0, .ref 100), (1, .int (nI N)), (2, .int y)]) (st1 := [.int y, .int (nI (N % 1000 % 300)), .int (nI (N / 1000)), .ref 100]) (w1 := (WX pgC pgL stC (nI sl) PA PS BB BT u)) (by decide +kernel) rfl ?_
        refine M.callVi (as := [.int (nI (N / 1000)), .int (nI (N % 1000 % 300)), .int y]) (st := []) (nx := 100) okX3_runWith lkX3_105 (x_runWith (BA := BB) (BS := BT) (n := ptsN (N % 1000 / 300)) hsl hR.1.2.2.1 (ptsN_le _) hpp (nI (N / 1000)) y) (by decide +kernel) (by decide) rfl (Nat.le_of_ble_eq_true rfl) rfl (by decide) ?_
        exact M.reti (nx := 101) (by decide +kernel) (Or.inr (Or.inr ⟨hft, fun e => e.elim z51 (fun e => i32_nlt e z56), by rw [rw_of hR hpp, pl_tau hpl h25 hk], BB, BT, rfl, Or.inr ⟨N % 1000 / 300, by omega, by rw [hR.1.1]; exact hR⟩⟩))
      · refine M.blk (is := [(.sipush (-1002), 0, 0, (-1002))]) (pc1 := 62) (lo1 := [(5, .int (nI (N % 1000 % 300))), (4, .int (nI (N % 1000 / 300))), (3, .int (nI (N / 1000))), (0, .ref 100), (1, .int (nI N)), (2, .int y)]) (st1 := [.int (-1002)]) (w1 := (WX pgC pgL stC (nI sl) PA PS BA BS u)) (by decide +kernel) rfl ?_
        exact M.reti (nx := 63) (by decide +kernel) (Or.inr (Or.inl ⟨b2i_t z43, Or.inr (i32_nle z56), rfl, rfl⟩))
  · refine M.blk (is := [(.sipush (-1001), 0, 0, (-1001))]) (pc1 := 49) (lo1 := [(5, .int (nI (N % 1000 % 300))), (4, .int (nI (N % 1000 / 300))), (3, .int (nI (N / 1000))), (0, .ref 100), (1, .int (nI N)), (2, .int y)]) (st1 := [.int (-1001)]) (w1 := (WX pgC pgL stC (nI sl) PA PS BA BS u)) (by decide +kernel) rfl ?_
    exact M.reti (nx := 50) (by decide +kernel) (Or.inl ⟨Bool.eq_false_iff.mpr (b2i_f z43), rfl, rfl⟩)
def smM (κ : Nat) (τ C : Nat → Int32) (sl : Nat) : Nat → Int32 := fun p => (smS κ p τ C sl).2.2.2.2.1
def smF (κ : Nat) (τ C : Nat → Int32) (sl : Nat) : Nat → Int32 := fun p => (smS κ p τ C sl).2.2.2.2.2.1
def fdF (r c : Nat) (C : Nat → Int32) (sl k κ : Nat) (y : Int32) : Int32 := if y = 0 then nI (hmC κ (thr r c k) (ptsN κ)) else if y = 1 then nI (hmM κ (thr r c k) (smM κ (tauG r c k) C sl) (ptsN κ)) else if y = 2 then lhI (nI k) κ (lhS κ (thr r c k) (smM κ (tauG r c k) C sl) (ptsN κ) 0) else ltF κ (thr r c k) (smM κ (tauG r c k) C sl) (smF κ (tauG r c k) C sl) (ptsN κ)
theorem fd_out {y : Int32} (h : y.toInt < 0 ∨ 0 + (([80, 88, 96] : List Nat).length : Int) ≤ y.toInt) {A B C D : Int32} : (if y = 0 then A else if y = 1 then B else if y = 2 then C else D) = D := by
  have key : ∀ v : Int32, 0 ≤ v.toInt → v.toInt ≤ 2 → ¬ y = v := by
    rintro v h1 h2 rfl
    simp only [List.length_cons, List.length_nil] at h
    omega
  rw [if_neg (key 0 (by decide) (by decide)), if_neg (key 1 (by decide) (by decide)), if_neg (key 2 (by decide) (by decide))]
theorem lt3 {z : Int32} (h : z ≤ 2) : z < nI 3 := by
  rw [Int32.le_iff_toInt_le] at h
  rw [Int32.lt_iff_toInt_lt]
  have h1 : (2 : Int32).toInt = 2 := by decide
  have h2 : (nI 3).toInt = 3 := by decide
  omega
theorem x_found {sl : Nat} (hsl : sl ≤ 64) {r c f h t : Nat} (hgeo : GeoOk r c f h t) (hpl : PlOk r c f h t PA PS) (hbn : BnOk PA PS stC sl BA BS) (x z y : Int32) : CC 4 mX3_found 0 0 [.ref 100, .int x, .int z, .int y] (WX pgC pgL stC (nI sl) PA PS BA BS u) (fun r0 w1 => ((∀ k κ, k < r * c → κ < 3 → ¬ (x = nI k ∧ z = nI κ)) ∧ r0 = some (.int (-1001)) ∧ w1 = (WX pgC pgL stC (nI sl) PA PS BA BS u)) ∨ (∃ k κ, k < r * c ∧ κ < 3 ∧ x = nI k ∧ z = nI κ ∧ outY y 3 ∧ r0 = some (.int (-1002)) ∧ w1 = (WX pgC pgL stC (nI sl) PA PS BA BS u)) ∨ (∃ k κ, k < r * c ∧ κ < 3 ∧ x = nI k ∧ z = nI κ ∧ ¬ outY y 3 ∧ r0 = some (.int (fdF r c stC sl k κ y)) ∧ ∃ BB BT, w1 = WX pgC pgL stC (nI sl) PA PS BB BT u ∧ BnOk PA PS stC sl BB BT)) := by
  have h25 : r * c ≤ 25 := Nat.mul_le_mul hgeo.1.2 hgeo.2.1.2
  have h9a : 9 ≤ r * c := Nat.mul_le_mul hgeo.1.1 hgeo.2.1.1
  refine CC.of okX3_found.1 (Nat.le_of_ble_eq_true rfl) (fun g M => ?_)
  have hcs := hasF_cases PS x hpl.1.2.2.1 h25
  show g 0 0 0 [(0, .ref 100), (1, .int x), (2, .int z), (3, .int y)] [] (WX pgC pgL stC (nI sl) PA PS BA BS u)
  refine M.blk (is := [(.aload_n 0, 0, 0, 0), (.getfield 22, 3, 2, 0), (.iload_n 1, 1, 0, 0)]) (pc1 := 5) (lo1 := [(0, .ref 100), (1, .int x), (2, .int z), (3, .int y)]) (st1 := [.int x, .ref 105]) (w1 := (WX pgC pgL stC (nI sl) PA PS BA BS u)) (by decide +kernel) rfl ?_
  refine M.callVi (as := [.int x]) (st := []) (nx := 8) okX1_has lkX3_78 (x_has x) (by decide +kernel) (by decide) rfl (Nat.le_of_ble_eq_true rfl) rfl (by decide) ?_
  refine M.if_eq (off := 12) (tgt := 20) (nx := 11) (by decide +kernel) (fun z8 => ?_) (fun z8 => ?_)
  · refine M.blk (is := [(.sipush (-1001), 0, 0, (-1001))]) (pc1 := 23) (lo1 := [(0, .ref 100), (1, .int x), (2, .int z), (3, .int y)]) (st1 := [.int (-1001)]) (w1 := (WX pgC pgL stC (nI sl) PA PS BA BS u)) (by decide +kernel) rfl ?_
    exact M.reti (nx := 24) (by decide +kernel) (Or.inl ⟨fun k κ hk hκ e => by rw [e.1, hasF_nI hpl.1.2.2.1 h25 hk] at z8; exact absurd z8 (by decide), rfl, rfl⟩)
  · refine M.blk (is := [(.iload_n 2, 2, 0, 0)]) (pc1 := 12) (lo1 := [(0, .ref 100), (1, .int x), (2, .int z), (3, .int y)]) (st1 := [.int z]) (w1 := (WX pgC pgL stC (nI sl) PA PS BA BS u)) (by decide +kernel) rfl ?_
    refine M.if_lt (off := 8) (tgt := 20) (nx := 15) (by decide +kernel) (fun z12 => ?_) (fun z12 => ?_)
    · refine M.blk (is := [(.sipush (-1001), 0, 0, (-1001))]) (pc1 := 23) (lo1 := [(0, .ref 100), (1, .int x), (2, .int z), (3, .int y)]) (st1 := [.int (-1001)]) (w1 := (WX pgC pgL stC (nI sl) PA PS BA BS u)) (by decide +kernel) rfl ?_
      exact M.reti (nx := 24) (by decide +kernel) (Or.inl ⟨fun k κ hk hκ e => by rw [e.2] at z12; exact nI_pos (by omega) z12, rfl, rfl⟩)
    · refine M.blk (is := [(.iload_n 2, 2, 0, 0), (.iconst 2, 0, 0, 2)]) (pc1 := 17) (lo1 := [(0, .ref 100), (1, .int x), (2, .int z), (3, .int y)]) (st1 := [.int 2, .int z]) (w1 := (WX pgC pgL stC (nI sl) PA PS BA BS u)) (by decide +kernel) rfl ?_
      refine M.icmp_le (off := 7) (tgt := 24) (nx := 20) (by decide +kernel) (fun z17 => ?_) (fun z17 => ?_)
      · obtain ⟨k, hk, rfl⟩ : ∃ k, k < r * c ∧ x = nI k := by
          rcases hcs with ⟨e, _⟩ | ⟨_, h⟩
          · exact absurd e z8
          · exact h
        obtain ⟨κ, hκ, rfl⟩ : ∃ κ : Nat, κ < 3 ∧ z = nI κ := ⟨_, (idx_of (n := 3) z12 (fun h => i32_nlt (lt3 z17) h) (by decide)).2, (idx_of (n := 3) z12 (fun h => i32_nlt (lt3 z17) h) (by decide)).1⟩
        refine M.blk (is := [(.iload_n 3, 3, 0, 0)]) (pc1 := 25) (lo1 := [(0, .ref 100), (1, .int (nI k)), (2, .int (nI κ)), (3, .int y)]) (st1 := [.int y]) (w1 := (WX pgC pgL stC (nI sl) PA PS BA BS u)) (by decide +kernel) rfl ?_
        refine M.if_lt (off := 8) (tgt := 33) (nx := 28) (by decide +kernel) (fun z25 => ?_) (fun z25 => ?_)
        · refine M.blk (is := [(.sipush (-1002), 0, 0, (-1002))]) (pc1 := 36) (lo1 := [(0, .ref 100), (1, .int (nI k)), (2, .int (nI κ)), (3, .int y)]) (st1 := [.int (-1002)]) (w1 := (WX pgC pgL stC (nI sl) PA PS BA BS u)) (by decide +kernel) rfl ?_
          exact M.reti (nx := 37) (by decide +kernel) (Or.inr (Or.inl ⟨k, κ, hk, hκ, rfl, rfl, Or.inl z25, rfl, rfl⟩))
        · refine M.blk (is := [(.iload_n 3, 3, 0, 0), (.iconst 3, 0, 0, 3)]) (pc1 := 30) (lo1 := [(0, .ref 100), (1, .int (nI k)), (2, .int (nI κ)), (3, .int y)]) (st1 := [.int 3, .int y]) (w1 := (WX pgC pgL stC (nI sl) PA PS BA BS u)) (by decide +kernel) rfl ?_
          refine M.icmp_le (off := 7) (tgt := 37) (nx := 33) (by decide +kernel) (fun z30 => ?_) (fun z30 => ?_)
          · refine M.blk (is := [(.aload_n 0, 0, 0, 0), (.getfield 29, 3, 3, 0), (.aload_n 0, 0, 0, 0), (.getfield 22, 3, 2, 0), (.aload_n 0, 0, 0, 0), (.getfield 16, 3, 1, 0), (.iload_n 1, 1, 0, 0), (.iload_n 2, 2, 0, 0)]) (pc1 := 51) (lo1 := [(0, .ref 100), (1, .int (nI k)), (2, .int (nI κ)), (3, .int y)]) (st1 := [.int (nI κ), .int (nI k), .ref 103, .ref 105, .ref 113]) (w1 := (WX pgC pgL stC (nI sl) PA PS BA BS u)) (by decide +kernel) rfl ?_
            rw [← kI_nI hκ]
            refine M.callV (as := [.ref 105, .ref 103, .int (nI k), .int (kI κ)]) (st := []) (nx := 54) okX0_work lkX3_101 (x_work hsl (by omega) hbn (nI k)) (by decide +kernel) (by decide) rfl (Nat.le_of_ble_eq_true rfl) rfl (by decide) ⟨by decide, by decide⟩ ?_
            intro r0 w1 hq
            obtain ⟨rfl, BB, BT, rfl, hR⟩ := hq
            have g9 : BT 9 = nI (thr r c k) := hR.1.2.2.2.trans (pl_th hpl h25 hk)
            have hBn : BnOk PA PS stC sl BB BT := Or.inr ⟨κ, by omega, by rw [hR.1.1]; exact hR⟩
            unfold BnR at hR
            rw [pl_tau hpl h25 hk] at hR
            have gM : ∀ p, p < ptsN κ → BB 1 p = smM κ (tauG r c k) stC sl p := fun p hp => (hR.2.2.2.2 p hp).1
            have gF : ∀ p, p < ptsN κ → ¬ smM κ (tauG r c k) stC sl p = 0 → BB 2 p = smF κ (tauG r c k) stC sl p := fun p hp e => ((hR.2.2.2.2 p hp).2 e).1
            show g 0 0 54 [(0, .ref 100), (1, .int (nI k)), (2, .int (kI κ)), (3, .int y)] [] (WX pgC pgL stC (nI sl) PA PS BB BT u)
            refine M.blk (is := [(.iload_n 3, 3, 0, 0)]) (pc1 := 55) (lo1 := [(0, .ref 100), (1, .int (nI k)), (2, .int (kI κ)), (3, .int y)]) (st1 := [.int y]) (w1 := (WX pgC pgL stC (nI sl) PA PS BB BT u)) (by decide +kernel) rfl ?_
            refine M.tsw (dflt := 49) (a := 0) (b := 2) (offs := #[25, 33, 41]) (len := 25) (tg := [80, 88, 96]) (dt := 104) (by decide +kernel) (fun j t hj hx55 => ?_) (fun hx55 => ?_)
            · match j, hj, hx55 with
              | 0, hj, hx55 =>
                cases hj
                have hx55 : y = 0 := i32_of hx55 (by decide)
                subst hx55
                refine M.blk (is := [(.aload_n 0, 0, 0, 0), (.getfield 29, 3, 3, 0)]) (pc1 := 84) (lo1 := [(0, .ref 100), (1, .int (nI k)), (2, .int (kI κ)), (3, .int 0)]) (st1 := [.ref 113]) (w1 := (WX pgC pgL stC (nI sl) PA PS BB BT u)) (by decide +kernel) rfl ?_
                refine M.callVi (as := []) (st := []) (nx := 87) okX0_howMany lkX3_109 (x_howMany (BA := BB) (BS := BT) hR.1.2.1 (by omega) hR.1.2.2.1 g9 (thr_lt _ _ _) gM) (by decide +kernel) (by decide) rfl (Nat.le_of_ble_eq_true rfl) rfl (by decide) ?_
                exact M.reti (nx := 88) (by decide +kernel) (Or.inr (Or.inr ⟨k, κ, hk, hκ, rfl, rfl, fun e => e.elim z25 (fun e => i32_nlt e z30), rfl, BB, BT, rfl, hBn⟩))
              | 1, hj, hx55 =>
                cases hj
                have hx55 : y = 1 := i32_of hx55 (by decide)
                subst hx55
                refine M.blk (is := [(.aload_n 0, 0, 0, 0), (.getfield 29, 3, 3, 0)]) (pc1 := 92) (lo1 := [(0, .ref 100), (1, .int (nI k)), (2, .int (kI κ)), (3, .int 1)]) (st1 := [.ref 113]) (w1 := (WX pgC pgL stC (nI sl) PA PS BB BT u)) (by decide +kernel) rfl ?_
                refine M.callVi (as := []) (st := []) (nx := 95) okX0_howManyMissed lkX3_112 (x_howManyMissed (BA := BB) (BS := BT) hR.1.2.1 (by omega) hR.1.2.2.1 g9 (thr_lt _ _ _) gM) (by decide +kernel) (by decide) rfl (Nat.le_of_ble_eq_true rfl) rfl (by decide) ?_
                exact M.reti (nx := 96) (by decide +kernel) (Or.inr (Or.inr ⟨k, κ, hk, hκ, rfl, rfl, fun e => e.elim z25 (fun e => i32_nlt e z30), rfl, BB, BT, rfl, hBn⟩))
              | 2, hj, hx55 =>
                cases hj
                have hx55 : y = 2 := i32_of hx55 (by decide)
                subst hx55
                refine M.blk (is := [(.aload_n 0, 0, 0, 0), (.getfield 29, 3, 3, 0)]) (pc1 := 100) (lo1 := [(0, .ref 100), (1, .int (nI k)), (2, .int (kI κ)), (3, .int 2)]) (st1 := [.ref 113]) (w1 := (WX pgC pgL stC (nI sl) PA PS BB BT u)) (by decide +kernel) rfl ?_
                refine M.callVi (as := []) (st := []) (nx := 103) okX0_leastHidden lkX3_115 (x_leastHidden (BA := BB) (BS := BT) hR.1.2.1 (by omega) hR.1.2.2.1 g9 (thr_lt _ _ _) gM) (by decide +kernel) (by decide) rfl (Nat.le_of_ble_eq_true rfl) rfl (by decide) ?_
                exact M.reti (nx := 104) (by decide +kernel) (Or.inr (Or.inr ⟨k, κ, hk, hκ, rfl, rfl, fun e => e.elim z25 (fun e => i32_nlt e z30), by rw [hR.1.1]; rfl, BB, BT, rfl, hBn⟩))
              | j + 3, hj, _ => exact absurd hj (by simp)
            · refine M.blk (is := [(.aload_n 0, 0, 0, 0), (.getfield 29, 3, 3, 0)]) (pc1 := 108) (lo1 := [(0, .ref 100), (1, .int (nI k)), (2, .int (kI κ)), (3, .int y)]) (st1 := [.ref 113]) (w1 := (WX pgC pgL stC (nI sl) PA PS BB BT u)) (by decide +kernel) rfl ?_
              refine M.callVi (as := []) (st := []) (nx := 111) okX0_latestFirst lkX3_118 (x_latestFirst (BA := BB) (BS := BT) hR.1.2.1 (by omega) hR.1.2.2.1 g9 (thr_lt _ _ _) gM gF) (by decide +kernel) (by decide) rfl (Nat.le_of_ble_eq_true rfl) rfl (by decide) ?_
              exact M.reti (nx := 112) (by decide +kernel) (Or.inr (Or.inr ⟨k, κ, hk, hκ, rfl, rfl, fun e => e.elim z25 (fun e => i32_nlt e z30), by rw [fdF, fd_out hx55], BB, BT, rfl, hBn⟩))
          · refine M.blk (is := [(.sipush (-1002), 0, 0, (-1002))]) (pc1 := 36) (lo1 := [(0, .ref 100), (1, .int (nI k)), (2, .int (nI κ)), (3, .int y)]) (st1 := [.int (-1002)]) (w1 := (WX pgC pgL stC (nI sl) PA PS BA BS u)) (by decide +kernel) rfl ?_
            exact M.reti (nx := 37) (by decide +kernel) (Or.inr (Or.inl ⟨k, κ, hk, hκ, rfl, rfl, Or.inr (i32_nle z30), rfl, rfl⟩))
      · refine M.blk (is := [(.sipush (-1001), 0, 0, (-1001))]) (pc1 := 23) (lo1 := [(0, .ref 100), (1, .int x), (2, .int z), (3, .int y)]) (st1 := [.int (-1001)]) (w1 := (WX pgC pgL stC (nI sl) PA PS BA BS u)) (by decide +kernel) rfl ?_
        exact M.reti (nx := 24) (by decide +kernel) (Or.inl ⟨fun k κ hk hκ e => z17 (by rw [e.2]; exact nI_le (b := 2) (by omega) (by decide)), rfl, rfl⟩)
theorem x_seen {sl : Nat} (hsl : sl ≤ 64) {r c f h t : Nat} (hgeo : GeoOk r c f h t) (hpl : PlOk r c f h t PA PS) (hbn : BnOk PA PS stC sl BA BS) (x : Int32) : CC 4 mX3_seen 0 0 [.ref 100, .int x] (WX pgC pgL stC (nI sl) PA PS BA BS u) (fun r0 w1 => ((∀ k, k < r * c → ¬ x = nI k) ∧ r0 = some (.int (-1001)) ∧ w1 = (WX pgC pgL stC (nI sl) PA PS BA BS u)) ∨ (∃ k, k < r * c ∧ x = nI k ∧ r0 = some (.int (smS 3 0 (tauG r c k) stC sl).2.2.1) ∧ ∃ BB BT, w1 = WX pgC pgL stC (nI sl) PA PS BB BT u ∧ BnOk PA PS stC sl BB BT)) := by
  have h25 : r * c ≤ 25 := Nat.mul_le_mul hgeo.1.2 hgeo.2.1.2
  have h9a : 9 ≤ r * c := Nat.mul_le_mul hgeo.1.1 hgeo.2.1.1
  refine CC.of okX3_seen.1 (Nat.le_of_ble_eq_true rfl) (fun g M => ?_)
  have hcs := hasF_cases PS x hpl.1.2.2.1 h25
  show g 0 0 0 [(0, .ref 100), (1, .int x)] [] (WX pgC pgL stC (nI sl) PA PS BA BS u)
  refine M.blk (is := [(.aload_n 0, 0, 0, 0), (.getfield 22, 3, 2, 0), (.iload_n 1, 1, 0, 0)]) (pc1 := 5) (lo1 := [(0, .ref 100), (1, .int x)]) (st1 := [.int x, .ref 105]) (w1 := (WX pgC pgL stC (nI sl) PA PS BA BS u)) (by decide +kernel) rfl ?_
  refine M.callVi (as := [.int x]) (st := []) (nx := 8) okX1_has lkX3_78 (x_has x) (by decide +kernel) (by decide) rfl (Nat.le_of_ble_eq_true rfl) rfl (by decide) ?_
  refine M.if_ne (off := 7) (tgt := 15) (nx := 11) (by decide +kernel) (fun z8 => ?_) (fun z8 => ?_)
  · obtain ⟨k, hk, rfl⟩ : ∃ k, k < r * c ∧ x = nI k := by
      rcases hcs with ⟨e, _⟩ | ⟨_, h⟩
      · exact absurd e z8
      · exact h
    refine M.blk (is := [(.aload_n 0, 0, 0, 0), (.getfield 29, 3, 3, 0), (.aload_n 0, 0, 0, 0), (.getfield 22, 3, 2, 0), (.aload_n 0, 0, 0, 0), (.getfield 16, 3, 1, 0), (.iload_n 1, 1, 0, 0), (.iconst (-1), 0, 0, (-1))]) (pc1 := 29) (lo1 := [(0, .ref 100), (1, .int (nI k))]) (st1 := [.int (-1), .int (nI k), .ref 103, .ref 105, .ref 113]) (w1 := (WX pgC pgL stC (nI sl) PA PS BA BS u)) (by decide +kernel) rfl ?_
    refine M.callV (as := [.ref 105, .ref 103, .int (nI k), .int (-1)]) (st := []) (nx := 32) okX0_work lkX3_101 (x_work (κ := 3) hsl (by omega) hbn (nI k)) (by decide +kernel) (by decide) rfl (Nat.le_of_ble_eq_true rfl) rfl (by decide) ⟨by decide, by decide⟩ ?_
    intro r0 w1 hq
    obtain ⟨rfl, BB, BT, rfl, hR⟩ := hq
    have hBn : BnOk PA PS stC sl BB BT := Or.inr ⟨3, by omega, by rw [hR.1.1]; exact hR⟩
    unfold BnR at hR
    rw [pl_tau hpl h25 hk] at hR
    show g 0 0 32 [(0, .ref 100), (1, .int (nI k))] [] (WX pgC pgL stC (nI sl) PA PS BB BT u)
    refine M.blk (is := [(.aload_n 0, 0, 0, 0), (.getfield 29, 3, 3, 0), (.getfield 121, 0, 12, 0)]) (pc1 := 39) (lo1 := [(0, .ref 100), (1, .int (nI k))]) (st1 := [.int (BT 12)]) (w1 := (WX pgC pgL stC (nI sl) PA PS BB BT u)) (by decide +kernel) rfl ?_
    exact M.reti (nx := 40) (by decide +kernel) (Or.inr ⟨k, hk, rfl, by rw [hR.2.2.1 0], BB, BT, rfl, hBn⟩)
  · refine M.blk (is := [(.sipush (-1001), 0, 0, (-1001))]) (pc1 := 14) (lo1 := [(0, .ref 100), (1, .int x)]) (st1 := [.int (-1001)]) (w1 := (WX pgC pgL stC (nI sl) PA PS BA BS u)) (by decide +kernel) rfl ?_
    exact M.reti (nx := 15) (by decide +kernel) (Or.inl ⟨fun k hk e => by rw [e, hasF_nI hpl.1.2.2.1 h25 hk] at z8; exact absurd z8 (by decide), rfl, rfl⟩)
end RUN
