section LAW
def mL_law : Mt := (yL_law, cL_law, 4, some .boolean, 5)
theorem lg_self (y : Int64) : lg_cmp y y = 0 := by unfold lg_cmp; simp
theorem l4 {L i : Nat} (hL : L ≤ 2048) (hi : i ≤ 2048) : (nI L - 4 < nI i) ↔ ¬ i + 4 ≤ L := by
  by_cases h : 4 ≤ L
  · rw [show (4 : Int32) = nI 4 from rfl, pk_sub h]
    constructor
    · intro h1 h2
      exact nI_nlt (show i ≤ L - 4 by omega) (by omega) h1
    · intro h1
      exact nI_lt (by omega) (by omega)
  · constructor
    · intro _; omega
    · intro _
      have h0 : ¬ nI i < 0 := nI_pos (by omega)
      have e : nI L - 4 < 0 := by
        rcases (show L = 0 ∨ L = 1 ∨ L = 2 ∨ L = 3 by omega) with rfl | rfl | rfl | rfl <;> decide
      rw [Int32.lt_iff_toInt_lt] at h0 e ⊢
      omega
theorem law_lp {L : Nat} {xs : Nat → Int32} {g : Nat → Nat → Nat → Lo → List Value → Wd → Prop} (hL : L ≤ 2048) (M : Mach 14 mL_law 25 1460 (fun r _ => r = some (.int 1)) L xs g) : ∀ m i (w : Wd), L ≤ i + m → i ≤ L → Jt w → g 25 1460 18 [(0, .ref 99), (1, .ref 100), (2, .ref 0), (3, .int (nI i))] [] w := by
  have ex : ∀ i (w : Wd), ¬ i + 4 ≤ L → i ≤ L → g 25 1460 18 [(0, .ref 99), (1, .ref 100), (2, .ref 0), (3, .int (nI i))] [] w := by
    intro i w h4 hi
    refine M.blk (is := [(.iload_n 3, 3, 0, 0), (.aload_n 0, 0, 0, 0)]) (pc1 := 20) (lo1 := [(0, .ref 99), (1, .ref 100), (2, .ref 0), (3, .int (nI i))]) (st1 := [.ref 99, .int (nI i)]) (w1 := w) (by decide +kernel) rfl ?_
    refine M.scl (nx := 21) hL (by decide +kernel) ?_
    refine M.blk (is := [(.iconst 4, 0, 0, 4), (.isub, 0, 0, 0)]) (pc1 := 23) (lo1 := [(0, .ref 99), (1, .ref 100), (2, .ref 0), (3, .int (nI i))]) (st1 := [.int ((nI L) - 4), .int (nI i)]) (w1 := w) (by decide +kernel) rfl ?_
    refine M.icmp_gt (off := 457) (tgt := 480) (nx := 26) (by decide +kernel) (fun z23 => ?_) (fun z23 => by exfalso; exact z23 ((l4 hL (by omega)).mpr h4))
    refine M.blk (is := [(.iconst 1, 0, 0, 1)]) (pc1 := 481) (lo1 := [(0, .ref 99), (1, .ref 100), (2, .ref 0), (3, .int (nI i))]) (st1 := [.int 1]) (w1 := w) (by decide +kernel) rfl ?_
    exact M.retz (nx := 482) (by decide +kernel) (by decide) rfl
  intro m
  induction m with
  | zero =>
    intro i w h1 h2 _
    exact ex i w (by omega) h2
  | succ m ih =>
    intro i w h1 h2 hw
    by_cases h4 : i + 4 ≤ L
    · obtain ⟨pl, sl, r, c, f, h, t, pgC, stC, PA, PS, BA, BS, MA, MS, Mh, rfl, hJ⟩ := hw
      refine M.blk (is := [(.iload_n 3, 3, 0, 0), (.aload_n 0, 0, 0, 0)]) (pc1 := 20) (lo1 := [(0, .ref 99), (1, .ref 100), (2, .ref 0), (3, .int (nI i))]) (st1 := [.ref 99, .int (nI i)]) (w1 := (JW pl sl pgC stC PA PS BA BS MA MS Mh)) (by decide +kernel) rfl ?_
      refine M.scl (nx := 21) hL (by decide +kernel) ?_
      refine M.blk (is := [(.iconst 4, 0, 0, 4), (.isub, 0, 0, 0)]) (pc1 := 23) (lo1 := [(0, .ref 99), (1, .ref 100), (2, .ref 0), (3, .int (nI i))]) (st1 := [.int ((nI L) - 4), .int (nI i)]) (w1 := (JW pl sl pgC stC PA PS BA BS MA MS Mh)) (by decide +kernel) rfl ?_
      refine M.icmp_gt (off := 457) (tgt := 480) (nx := 26) (by decide +kernel) (fun z23 => by exfalso; exact (l4 hL (by omega)).mp z23 h4) (fun z23 => ?_)
      refine M.blk (is := [(.aload_n 0, 0, 0, 0), (.iload_n 3, 3, 0, 0)]) (pc1 := 28) (lo1 := [(0, .ref 99), (1, .ref 100), (2, .ref 0), (3, .int (nI i))]) (st1 := [.int (nI i), .ref 99]) (w1 := (JW pl sl pgC stC PA PS BA BS MA MS Mh)) (by decide +kernel) rfl ?_
      refine M.sca (j := i) (nx := 29) hL (by decide +kernel) rfl (by omega) ?_
      refine M.blk (is := [(.bipush 15, 0, 0, 15), (.iand, 0, 0, 0)]) (pc1 := 32) (lo1 := [(0, .ref 99), (1, .ref 100), (2, .ref 0), (3, .int (nI i))]) (st1 := [.int ((xs i) &&& 15)]) (w1 := (JW pl sl pgC stC PA PS BA BS MA MS Mh)) (by decide +kernel) rfl ?_
      refine M.tsw (dflt := 442) (a := 0) (b := 14) (offs := #[76, 99, 112, 125, 138, 151, 174, 207, 250, 283, 306, 339, 382, 405, 428]) (len := 76) (tg := [108, 131, 144, 157, 170, 183, 206, 239, 282, 315, 338, 371, 414, 437, 460]) (dt := 474) (by decide +kernel) (fun j t hj hx32 => ?_) (fun hx32 => ?_)
      · match j, hj, hx32 with
        | 0, hj, hx32 =>
          cases hj
          have hx32 : (xs i) &&& 15 = 0 := i32_of hx32 (by decide)
          refine M.blk (is := [(.aload_n 1, 1, 0, 0), (.aload_n 0, 0, 0, 0), (.iload_n 3, 3, 0, 0), (.iconst 1, 0, 0, 1), (.iadd, 0, 0, 0)]) (pc1 := 113) (lo1 := [(0, .ref 99), (1, .ref 100), (2, .ref 0), (3, .int (nI i))]) (st1 := [.int ((nI i) + 1), .ref 99, .ref 100]) (w1 := (JW pl sl pgC stC PA PS BA BS MA MS Mh)) (by decide +kernel) rfl ?_
          refine M.sca (j := (i + 1)) (nx := 114) hL (by decide +kernel) (by rw [nI_1]) (by omega) ?_
          obtain ⟨Px, hX, hXX⟩ := j_letter (Mh := Mh) hJ (xs (i + 1))
          refine M.callV (as := [.int (xs (i + 1))]) (st := []) (nx := 117) okX3_letter lkL_13 hX (by decide +kernel) (by decide) rfl (Nat.le_of_ble_eq_true rfl) rfl (by decide) ⟨by decide, by decide⟩ ?_
          intro r1 w1 hq
          obtain ⟨y, fs, Pm, rfl, hlk, hCm, hPm⟩ := hXX r1 w1 hq
          show g 25 1460 117 [(0, .ref 99), (1, .ref 100), (2, .ref 0), (3, .int (nI i))] [.int y] w1
          refine M.blk (is := [(.aload_n 2, 2, 0, 0), (.aload_n 0, 0, 0, 0), (.iload_n 3, 3, 0, 0), (.iconst 1, 0, 0, 1), (.iadd, 0, 0, 0)]) (pc1 := 122) (lo1 := [(0, .ref 99), (1, .ref 100), (2, .ref 0), (3, .int (nI i))]) (st1 := [.int ((nI i) + 1), .ref 99, .ref 0, .int y]) (w1 := w1) (by decide +kernel) rfl ?_
          refine M.sca (j := (i + 1)) (nx := 123) hL (by decide +kernel) (by rw [nI_1]) (by omega) ?_
          refine M.callV (as := [.int (xs (i + 1))]) (st := [.int y]) (nx := 126) okX4_letter lkL_17 hCm (by decide +kernel) (by decide) rfl (Nat.le_of_ble_eq_true rfl) hlk (by decide) ⟨by decide, by decide⟩ ?_
          intro r2 w2 hq2
          obtain ⟨rfl, hJ2⟩ := hPm r2 w2 hq2
          show g 25 1460 126 [(0, .ref 99), (1, .ref 100), (2, .ref 0), (3, .int (nI i))] [.int y, .int y] w2
          refine M.icmp_eq (off := 348) (tgt := 474) (nx := 129) (by decide +kernel) (fun z126 => ?_) (fun z126 => by exfalso; exact z126 rfl)
          refine M.blk (is := [(.iinc 3 4, 3, 0, 4), (.goto (-459), 18, 0, 0)]) (pc1 := 18) (lo1 := [(3, .int ((nI i) + 4)), (0, .ref 99), (1, .ref 100), (2, .ref 0)]) (st1 := []) (w1 := w2) (by decide +kernel) rfl ?_
          refine M.lsub [1, 2, 3, 0] (lo1 := [(0, .ref 99), (1, .ref 100), (2, .ref 0), (3, .int ((nI i) + 4))]) rfl ?_
          rw [show nI i + 4 = nI (i + 4) by rw [show (4 : Int32) = nI 4 from rfl, nI_add]]
          exact ih (i + 4) _ (by omega) (by omega) hJ2
        | 1, hj, hx32 =>
          cases hj
          have hx32 : (xs i) &&& 15 = 1 := i32_of hx32 (by decide)
          refine M.blk (is := [(.aload_n 1, 1, 0, 0)]) (pc1 := 132) (lo1 := [(0, .ref 99), (1, .ref 100), (2, .ref 0), (3, .int (nI i))]) (st1 := [.ref 100]) (w1 := (JW pl sl pgC stC PA PS BA BS MA MS Mh)) (by decide +kernel) rfl ?_
          obtain ⟨Px, hX, hXX⟩ := j_blank (Mh := Mh) hJ
          refine M.callV (as := []) (st := []) (nx := 135) okX3_blank lkL_18 hX (by decide +kernel) (by decide) rfl (Nat.le_of_ble_eq_true rfl) rfl (by decide) ⟨by decide, by decide⟩ ?_
          intro r1 w1 hq
          obtain ⟨y, fs, Pm, rfl, hlk, hCm, hPm⟩ := hXX r1 w1 hq
          show g 25 1460 135 [(0, .ref 99), (1, .ref 100), (2, .ref 0), (3, .int (nI i))] [.int y] w1
          refine M.blk (is := [(.aload_n 2, 2, 0, 0)]) (pc1 := 136) (lo1 := [(0, .ref 99), (1, .ref 100), (2, .ref 0), (3, .int (nI i))]) (st1 := [.ref 0, .int y]) (w1 := w1) (by decide +kernel) rfl ?_
          refine M.callV (as := []) (st := [.int y]) (nx := 139) okX4_blank lkL_22 hCm (by decide +kernel) (by decide) rfl (Nat.le_of_ble_eq_true rfl) hlk (by decide) ⟨by decide, by decide⟩ ?_
          intro r2 w2 hq2
          obtain ⟨rfl, hJ2⟩ := hPm r2 w2 hq2
          show g 25 1460 139 [(0, .ref 99), (1, .ref 100), (2, .ref 0), (3, .int (nI i))] [.int y, .int y] w2
          refine M.icmp_eq (off := 335) (tgt := 474) (nx := 142) (by decide +kernel) (fun z139 => ?_) (fun z139 => by exfalso; exact z139 rfl)
          refine M.blk (is := [(.iinc 3 4, 3, 0, 4), (.goto (-459), 18, 0, 0)]) (pc1 := 18) (lo1 := [(3, .int ((nI i) + 4)), (0, .ref 99), (1, .ref 100), (2, .ref 0)]) (st1 := []) (w1 := w2) (by decide +kernel) rfl ?_
          refine M.lsub [1, 2, 3, 0] (lo1 := [(0, .ref 99), (1, .ref 100), (2, .ref 0), (3, .int ((nI i) + 4))]) rfl ?_
          rw [show nI i + 4 = nI (i + 4) by rw [show (4 : Int32) = nI 4 from rfl, nI_add]]
          exact ih (i + 4) _ (by omega) (by omega) hJ2
        | 2, hj, hx32 =>
          cases hj
          have hx32 : (xs i) &&& 15 = 2 := i32_of hx32 (by decide)
          refine M.blk (is := [(.aload_n 1, 1, 0, 0)]) (pc1 := 145) (lo1 := [(0, .ref 99), (1, .ref 100), (2, .ref 0), (3, .int (nI i))]) (st1 := [.ref 100]) (w1 := (JW pl sl pgC stC PA PS BA BS MA MS Mh)) (by decide +kernel) rfl ?_
          obtain ⟨Px, hX, hXX⟩ := j_fault (Mh := Mh) hJ
          refine M.callV (as := []) (st := []) (nx := 148) okX3_fault lkL_23 hX (by decide +kernel) (by decide) rfl (Nat.le_of_ble_eq_true rfl) rfl (by decide) ⟨by decide, by decide⟩ ?_
          intro r1 w1 hq
          obtain ⟨y, fs, Pm, rfl, hlk, hCm, hPm⟩ := hXX r1 w1 hq
          show g 25 1460 148 [(0, .ref 99), (1, .ref 100), (2, .ref 0), (3, .int (nI i))] [.int y] w1
          refine M.blk (is := [(.aload_n 2, 2, 0, 0)]) (pc1 := 149) (lo1 := [(0, .ref 99), (1, .ref 100), (2, .ref 0), (3, .int (nI i))]) (st1 := [.ref 0, .int y]) (w1 := w1) (by decide +kernel) rfl ?_
          refine M.callV (as := []) (st := [.int y]) (nx := 152) okX4_fault lkL_26 hCm (by decide +kernel) (by decide) rfl (Nat.le_of_ble_eq_true rfl) hlk (by decide) ⟨by decide, by decide⟩ ?_
          intro r2 w2 hq2
          obtain ⟨rfl, hJ2⟩ := hPm r2 w2 hq2
          show g 25 1460 152 [(0, .ref 99), (1, .ref 100), (2, .ref 0), (3, .int (nI i))] [.int y, .int y] w2
          refine M.icmp_eq (off := 322) (tgt := 474) (nx := 155) (by decide +kernel) (fun z152 => ?_) (fun z152 => by exfalso; exact z152 rfl)
          refine M.blk (is := [(.iinc 3 4, 3, 0, 4), (.goto (-459), 18, 0, 0)]) (pc1 := 18) (lo1 := [(3, .int ((nI i) + 4)), (0, .ref 99), (1, .ref 100), (2, .ref 0)]) (st1 := []) (w1 := w2) (by decide +kernel) rfl ?_
          refine M.lsub [1, 2, 3, 0] (lo1 := [(0, .ref 99), (1, .ref 100), (2, .ref 0), (3, .int ((nI i) + 4))]) rfl ?_
          rw [show nI i + 4 = nI (i + 4) by rw [show (4 : Int32) = nI 4 from rfl, nI_add]]
          exact ih (i + 4) _ (by omega) (by omega) hJ2
        | 3, hj, hx32 =>
          cases hj
          have hx32 : (xs i) &&& 15 = 3 := i32_of hx32 (by decide)
          refine M.blk (is := [(.aload_n 1, 1, 0, 0)]) (pc1 := 158) (lo1 := [(0, .ref 99), (1, .ref 100), (2, .ref 0), (3, .int (nI i))]) (st1 := [.ref 100]) (w1 := (JW pl sl pgC stC PA PS BA BS MA MS Mh)) (by decide +kernel) rfl ?_
          obtain ⟨Px, hX, hXX⟩ := j_test (Mh := Mh) hJ
          refine M.callV (as := []) (st := []) (nx := 161) okX3_test lkL_27 hX (by decide +kernel) (by decide) rfl (Nat.le_of_ble_eq_true rfl) rfl (by decide) ⟨by decide, by decide⟩ ?_
          intro r1 w1 hq
          obtain ⟨y, fs, Pm, rfl, hlk, hCm, hPm⟩ := hXX r1 w1 hq
          show g 25 1460 161 [(0, .ref 99), (1, .ref 100), (2, .ref 0), (3, .int (nI i))] [.int y] w1
          refine M.blk (is := [(.aload_n 2, 2, 0, 0)]) (pc1 := 162) (lo1 := [(0, .ref 99), (1, .ref 100), (2, .ref 0), (3, .int (nI i))]) (st1 := [.ref 0, .int y]) (w1 := w1) (by decide +kernel) rfl ?_
          refine M.callV (as := []) (st := [.int y]) (nx := 165) okX4_test lkL_30 hCm (by decide +kernel) (by decide) rfl (Nat.le_of_ble_eq_true rfl) hlk (by decide) ⟨by decide, by decide⟩ ?_
          intro r2 w2 hq2
          obtain ⟨rfl, hJ2⟩ := hPm r2 w2 hq2
          show g 25 1460 165 [(0, .ref 99), (1, .ref 100), (2, .ref 0), (3, .int (nI i))] [.int y, .int y] w2
          refine M.icmp_eq (off := 309) (tgt := 474) (nx := 168) (by decide +kernel) (fun z165 => ?_) (fun z165 => by exfalso; exact z165 rfl)
          refine M.blk (is := [(.iinc 3 4, 3, 0, 4), (.goto (-459), 18, 0, 0)]) (pc1 := 18) (lo1 := [(3, .int ((nI i) + 4)), (0, .ref 99), (1, .ref 100), (2, .ref 0)]) (st1 := []) (w1 := w2) (by decide +kernel) rfl ?_
          refine M.lsub [1, 2, 3, 0] (lo1 := [(0, .ref 99), (1, .ref 100), (2, .ref 0), (3, .int ((nI i) + 4))]) rfl ?_
          rw [show nI i + 4 = nI (i + 4) by rw [show (4 : Int32) = nI 4 from rfl, nI_add]]
          exact ih (i + 4) _ (by omega) (by omega) hJ2
        | 4, hj, hx32 =>
          cases hj
          have hx32 : (xs i) &&& 15 = 4 := i32_of hx32 (by decide)
          refine M.blk (is := [(.aload_n 1, 1, 0, 0)]) (pc1 := 171) (lo1 := [(0, .ref 99), (1, .ref 100), (2, .ref 0), (3, .int (nI i))]) (st1 := [.ref 100]) (w1 := (JW pl sl pgC stC PA PS BA BS MA MS Mh)) (by decide +kernel) rfl ?_
          obtain ⟨Px, hX, hXX⟩ := j_gray (Mh := Mh) hJ
          refine M.callV (as := []) (st := []) (nx := 174) okX3_gray lkL_31 hX (by decide +kernel) (by decide) rfl (Nat.le_of_ble_eq_true rfl) rfl (by decide) ⟨by decide, by decide⟩ ?_
          intro r1 w1 hq
          obtain ⟨y, fs, Pm, rfl, hlk, hCm, hPm⟩ := hXX r1 w1 hq
          show g 25 1460 174 [(0, .ref 99), (1, .ref 100), (2, .ref 0), (3, .int (nI i))] [.int y] w1
          refine M.blk (is := [(.aload_n 2, 2, 0, 0)]) (pc1 := 175) (lo1 := [(0, .ref 99), (1, .ref 100), (2, .ref 0), (3, .int (nI i))]) (st1 := [.ref 0, .int y]) (w1 := w1) (by decide +kernel) rfl ?_
          refine M.callV (as := []) (st := [.int y]) (nx := 178) okX4_gray lkL_34 hCm (by decide +kernel) (by decide) rfl (Nat.le_of_ble_eq_true rfl) hlk (by decide) ⟨by decide, by decide⟩ ?_
          intro r2 w2 hq2
          obtain ⟨rfl, hJ2⟩ := hPm r2 w2 hq2
          show g 25 1460 178 [(0, .ref 99), (1, .ref 100), (2, .ref 0), (3, .int (nI i))] [.int y, .int y] w2
          refine M.icmp_eq (off := 296) (tgt := 474) (nx := 181) (by decide +kernel) (fun z178 => ?_) (fun z178 => by exfalso; exact z178 rfl)
          refine M.blk (is := [(.iinc 3 4, 3, 0, 4), (.goto (-459), 18, 0, 0)]) (pc1 := 18) (lo1 := [(3, .int ((nI i) + 4)), (0, .ref 99), (1, .ref 100), (2, .ref 0)]) (st1 := []) (w1 := w2) (by decide +kernel) rfl ?_
          refine M.lsub [1, 2, 3, 0] (lo1 := [(0, .ref 99), (1, .ref 100), (2, .ref 0), (3, .int ((nI i) + 4))]) rfl ?_
          rw [show nI i + 4 = nI (i + 4) by rw [show (4 : Int32) = nI 4 from rfl, nI_add]]
          exact ih (i + 4) _ (by omega) (by omega) hJ2
        | 5, hj, hx32 =>
          cases hj
          have hx32 : (xs i) &&& 15 = 5 := i32_of hx32 (by decide)
          refine M.blk (is := [(.aload_n 1, 1, 0, 0), (.aload_n 0, 0, 0, 0), (.iload_n 3, 3, 0, 0), (.iconst 1, 0, 0, 1), (.iadd, 0, 0, 0)]) (pc1 := 188) (lo1 := [(0, .ref 99), (1, .ref 100), (2, .ref 0), (3, .int (nI i))]) (st1 := [.int ((nI i) + 1), .ref 99, .ref 100]) (w1 := (JW pl sl pgC stC PA PS BA BS MA MS Mh)) (by decide +kernel) rfl ?_
          refine M.sca (j := (i + 1)) (nx := 189) hL (by decide +kernel) (by rw [nI_1]) (by omega) ?_
          obtain ⟨Px, hX, hXX⟩ := j_step (Mh := Mh) hJ (xs (i + 1))
          refine M.callV (as := [.int (xs (i + 1))]) (st := []) (nx := 192) okX3_step lkL_35 hX (by decide +kernel) (by decide) rfl (Nat.le_of_ble_eq_true rfl) rfl (by decide) ⟨by decide, by decide⟩ ?_
          intro r1 w1 hq
          obtain ⟨y, fs, Pm, rfl, hlk, hCm, hPm⟩ := hXX r1 w1 hq
          show g 25 1460 192 [(0, .ref 99), (1, .ref 100), (2, .ref 0), (3, .int (nI i))] [.int y] w1
          refine M.blk (is := [(.aload_n 2, 2, 0, 0), (.aload_n 0, 0, 0, 0), (.iload_n 3, 3, 0, 0), (.iconst 1, 0, 0, 1), (.iadd, 0, 0, 0)]) (pc1 := 197) (lo1 := [(0, .ref 99), (1, .ref 100), (2, .ref 0), (3, .int (nI i))]) (st1 := [.int ((nI i) + 1), .ref 99, .ref 0, .int y]) (w1 := w1) (by decide +kernel) rfl ?_
          refine M.sca (j := (i + 1)) (nx := 198) hL (by decide +kernel) (by rw [nI_1]) (by omega) ?_
          refine M.callV (as := [.int (xs (i + 1))]) (st := [.int y]) (nx := 201) okX4_step lkL_38 hCm (by decide +kernel) (by decide) rfl (Nat.le_of_ble_eq_true rfl) hlk (by decide) ⟨by decide, by decide⟩ ?_
          intro r2 w2 hq2
          obtain ⟨rfl, hJ2⟩ := hPm r2 w2 hq2
          show g 25 1460 201 [(0, .ref 99), (1, .ref 100), (2, .ref 0), (3, .int (nI i))] [.int y, .int y] w2
          refine M.icmp_eq (off := 273) (tgt := 474) (nx := 204) (by decide +kernel) (fun z201 => ?_) (fun z201 => by exfalso; exact z201 rfl)
          refine M.blk (is := [(.iinc 3 4, 3, 0, 4), (.goto (-459), 18, 0, 0)]) (pc1 := 18) (lo1 := [(3, .int ((nI i) + 4)), (0, .ref 99), (1, .ref 100), (2, .ref 0)]) (st1 := []) (w1 := w2) (by decide +kernel) rfl ?_
          refine M.lsub [1, 2, 3, 0] (lo1 := [(0, .ref 99), (1, .ref 100), (2, .ref 0), (3, .int ((nI i) + 4))]) rfl ?_
          rw [show nI i + 4 = nI (i + 4) by rw [show (4 : Int32) = nI 4 from rfl, nI_add]]
          exact ih (i + 4) _ (by omega) (by omega) hJ2
        | 6, hj, hx32 =>
          cases hj
          have hx32 : (xs i) &&& 15 = 6 := i32_of hx32 (by decide)
          refine M.blk (is := [(.aload_n 1, 1, 0, 0), (.aload_n 0, 0, 0, 0), (.iload_n 3, 3, 0, 0), (.iconst 1, 0, 0, 1), (.iadd, 0, 0, 0)]) (pc1 := 211) (lo1 := [(0, .ref 99), (1, .ref 100), (2, .ref 0), (3, .int (nI i))]) (st1 := [.int ((nI i) + 1), .ref 99, .ref 100]) (w1 := (JW pl sl pgC stC PA PS BA BS MA MS Mh)) (by decide +kernel) rfl ?_
          refine M.sca (j := (i + 1)) (nx := 212) hL (by decide +kernel) (by rw [nI_1]) (by omega) ?_
          refine M.blk (is := [(.aload_n 0, 0, 0, 0), (.iload_n 3, 3, 0, 0), (.iconst 2, 0, 0, 2), (.iadd, 0, 0, 0)]) (pc1 := 216) (lo1 := [(0, .ref 99), (1, .ref 100), (2, .ref 0), (3, .int (nI i))]) (st1 := [.int ((nI i) + 2), .ref 99, .int (xs (i + 1)), .ref 100]) (w1 := (JW pl sl pgC stC PA PS BA BS MA MS Mh)) (by decide +kernel) rfl ?_
          refine M.sca (j := (i + 2)) (nx := 217) hL (by decide +kernel) (by rw [show (2 : Int32) = nI 2 from rfl, nI_add]) (by omega) ?_
          obtain ⟨Px, hX, hXX⟩ := j_sheet (Mh := Mh) hJ (xs (i + 1)) (xs (i + 2))
          refine M.callV (as := [.int (xs (i + 1)), .int (xs (i + 2))]) (st := []) (nx := 220) okX3_sheet lkL_39 hX (by decide +kernel) (by decide) rfl (Nat.le_of_ble_eq_true rfl) rfl (by decide) ⟨by decide, by decide⟩ ?_
          intro r1 w1 hq
          obtain ⟨y, fs, Pm, rfl, hlk, hCm, hPm⟩ := hXX r1 w1 hq
          show g 25 1460 220 [(0, .ref 99), (1, .ref 100), (2, .ref 0), (3, .int (nI i))] [.int y] w1
          refine M.blk (is := [(.aload_n 2, 2, 0, 0), (.aload_n 0, 0, 0, 0), (.iload_n 3, 3, 0, 0), (.iconst 1, 0, 0, 1), (.iadd, 0, 0, 0)]) (pc1 := 225) (lo1 := [(0, .ref 99), (1, .ref 100), (2, .ref 0), (3, .int (nI i))]) (st1 := [.int ((nI i) + 1), .ref 99, .ref 0, .int y]) (w1 := w1) (by decide +kernel) rfl ?_
          refine M.sca (j := (i + 1)) (nx := 226) hL (by decide +kernel) (by rw [nI_1]) (by omega) ?_
          refine M.blk (is := [(.aload_n 0, 0, 0, 0), (.iload_n 3, 3, 0, 0), (.iconst 2, 0, 0, 2), (.iadd, 0, 0, 0)]) (pc1 := 230) (lo1 := [(0, .ref 99), (1, .ref 100), (2, .ref 0), (3, .int (nI i))]) (st1 := [.int ((nI i) + 2), .ref 99, .int (xs (i + 1)), .ref 0, .int y]) (w1 := w1) (by decide +kernel) rfl ?_
          refine M.sca (j := (i + 2)) (nx := 231) hL (by decide +kernel) (by rw [show (2 : Int32) = nI 2 from rfl, nI_add]) (by omega) ?_
          refine M.callV (as := [.int (xs (i + 1)), .int (xs (i + 2))]) (st := [.int y]) (nx := 234) okX4_sheet lkL_43 hCm (by decide +kernel) (by decide) rfl (Nat.le_of_ble_eq_true rfl) hlk (by decide) ⟨by decide, by decide⟩ ?_
          intro r2 w2 hq2
          obtain ⟨rfl, hJ2⟩ := hPm r2 w2 hq2
          show g 25 1460 234 [(0, .ref 99), (1, .ref 100), (2, .ref 0), (3, .int (nI i))] [.int y, .int y] w2
          refine M.icmp_eq (off := 240) (tgt := 474) (nx := 237) (by decide +kernel) (fun z234 => ?_) (fun z234 => by exfalso; exact z234 rfl)
          refine M.blk (is := [(.iinc 3 4, 3, 0, 4), (.goto (-459), 18, 0, 0)]) (pc1 := 18) (lo1 := [(3, .int ((nI i) + 4)), (0, .ref 99), (1, .ref 100), (2, .ref 0)]) (st1 := []) (w1 := w2) (by decide +kernel) rfl ?_
          refine M.lsub [1, 2, 3, 0] (lo1 := [(0, .ref 99), (1, .ref 100), (2, .ref 0), (3, .int ((nI i) + 4))]) rfl ?_
          rw [show nI i + 4 = nI (i + 4) by rw [show (4 : Int32) = nI 4 from rfl, nI_add]]
          exact ih (i + 4) _ (by omega) (by omega) hJ2
        | 7, hj, hx32 =>
          cases hj
          have hx32 : (xs i) &&& 15 = 7 := i32_of hx32 (by decide)
          refine M.blk (is := [(.aload_n 1, 1, 0, 0), (.aload_n 0, 0, 0, 0), (.iload_n 3, 3, 0, 0), (.iconst 1, 0, 0, 1), (.iadd, 0, 0, 0)]) (pc1 := 244) (lo1 := [(0, .ref 99), (1, .ref 100), (2, .ref 0), (3, .int (nI i))]) (st1 := [.int ((nI i) + 1), .ref 99, .ref 100]) (w1 := (JW pl sl pgC stC PA PS BA BS MA MS Mh)) (by decide +kernel) rfl ?_
          refine M.sca (j := (i + 1)) (nx := 245) hL (by decide +kernel) (by rw [nI_1]) (by omega) ?_
          refine M.blk (is := [(.aload_n 0, 0, 0, 0), (.iload_n 3, 3, 0, 0), (.iconst 2, 0, 0, 2), (.iadd, 0, 0, 0)]) (pc1 := 249) (lo1 := [(0, .ref 99), (1, .ref 100), (2, .ref 0), (3, .int (nI i))]) (st1 := [.int ((nI i) + 2), .ref 99, .int (xs (i + 1)), .ref 100]) (w1 := (JW pl sl pgC stC PA PS BA BS MA MS Mh)) (by decide +kernel) rfl ?_
          refine M.sca (j := (i + 2)) (nx := 250) hL (by decide +kernel) (by rw [show (2 : Int32) = nI 2 from rfl, nI_add]) (by omega) ?_
          refine M.blk (is := [(.aload_n 0, 0, 0, 0), (.iload_n 3, 3, 0, 0), (.iconst 3, 0, 0, 3), (.iadd, 0, 0, 0)]) (pc1 := 254) (lo1 := [(0, .ref 99), (1, .ref 100), (2, .ref 0), (3, .int (nI i))]) (st1 := [.int ((nI i) + 3), .ref 99, .int (xs (i + 2)), .int (xs (i + 1)), .ref 100]) (w1 := (JW pl sl pgC stC PA PS BA BS MA MS Mh)) (by decide +kernel) rfl ?_
          refine M.sca (j := (i + 3)) (nx := 255) hL (by decide +kernel) (by rw [show (3 : Int32) = nI 3 from rfl, nI_add]) (by omega) ?_
          obtain ⟨Px, hX, hXX⟩ := j_scramble (Mh := Mh) hJ (xs (i + 1)) (xs (i + 2)) (xs (i + 3))
          refine M.callV (as := [.int (xs (i + 1)), .int (xs (i + 2)), .int (xs (i + 3))]) (st := []) (nx := 258) okX3_scramble lkL_44 hX (by decide +kernel) (by decide) rfl (Nat.le_of_ble_eq_true rfl) rfl (by decide) ⟨by decide, by decide⟩ ?_
          intro r1 w1 hq
          obtain ⟨y, fs, Pm, rfl, hlk, hCm, hPm⟩ := hXX r1 w1 hq
          show g 25 1460 258 [(0, .ref 99), (1, .ref 100), (2, .ref 0), (3, .int (nI i))] [.int y] w1
          refine M.blk (is := [(.aload_n 2, 2, 0, 0), (.aload_n 0, 0, 0, 0), (.iload_n 3, 3, 0, 0), (.iconst 1, 0, 0, 1), (.iadd, 0, 0, 0)]) (pc1 := 263) (lo1 := [(0, .ref 99), (1, .ref 100), (2, .ref 0), (3, .int (nI i))]) (st1 := [.int ((nI i) + 1), .ref 99, .ref 0, .int y]) (w1 := w1) (by decide +kernel) rfl ?_
          refine M.sca (j := (i + 1)) (nx := 264) hL (by decide +kernel) (by rw [nI_1]) (by omega) ?_
          refine M.blk (is := [(.aload_n 0, 0, 0, 0), (.iload_n 3, 3, 0, 0), (.iconst 2, 0, 0, 2), (.iadd, 0, 0, 0)]) (pc1 := 268) (lo1 := [(0, .ref 99), (1, .ref 100), (2, .ref 0), (3, .int (nI i))]) (st1 := [.int ((nI i) + 2), .ref 99, .int (xs (i + 1)), .ref 0, .int y]) (w1 := w1) (by decide +kernel) rfl ?_
          refine M.sca (j := (i + 2)) (nx := 269) hL (by decide +kernel) (by rw [show (2 : Int32) = nI 2 from rfl, nI_add]) (by omega) ?_
          refine M.blk (is := [(.aload_n 0, 0, 0, 0), (.iload_n 3, 3, 0, 0), (.iconst 3, 0, 0, 3), (.iadd, 0, 0, 0)]) (pc1 := 273) (lo1 := [(0, .ref 99), (1, .ref 100), (2, .ref 0), (3, .int (nI i))]) (st1 := [.int ((nI i) + 3), .ref 99, .int (xs (i + 2)), .int (xs (i + 1)), .ref 0, .int y]) (w1 := w1) (by decide +kernel) rfl ?_
          refine M.sca (j := (i + 3)) (nx := 274) hL (by decide +kernel) (by rw [show (3 : Int32) = nI 3 from rfl, nI_add]) (by omega) ?_
          refine M.callV (as := [.int (xs (i + 1)), .int (xs (i + 2)), .int (xs (i + 3))]) (st := [.int y]) (nx := 277) okX4_scramble lkL_48 hCm (by decide +kernel) (by decide) rfl (Nat.le_of_ble_eq_true rfl) hlk (by decide) ⟨by decide, by decide⟩ ?_
          intro r2 w2 hq2
          obtain ⟨rfl, hJ2⟩ := hPm r2 w2 hq2
          show g 25 1460 277 [(0, .ref 99), (1, .ref 100), (2, .ref 0), (3, .int (nI i))] [.int y, .int y] w2
          refine M.icmp_eq (off := 197) (tgt := 474) (nx := 280) (by decide +kernel) (fun z277 => ?_) (fun z277 => by exfalso; exact z277 rfl)
          refine M.blk (is := [(.iinc 3 4, 3, 0, 4), (.goto (-459), 18, 0, 0)]) (pc1 := 18) (lo1 := [(3, .int ((nI i) + 4)), (0, .ref 99), (1, .ref 100), (2, .ref 0)]) (st1 := []) (w1 := w2) (by decide +kernel) rfl ?_
          refine M.lsub [1, 2, 3, 0] (lo1 := [(0, .ref 99), (1, .ref 100), (2, .ref 0), (3, .int ((nI i) + 4))]) rfl ?_
          rw [show nI i + 4 = nI (i + 4) by rw [show (4 : Int32) = nI 4 from rfl, nI_add]]
          exact ih (i + 4) _ (by omega) (by omega) hJ2
        | 8, hj, hx32 =>
          cases hj
          have hx32 : (xs i) &&& 15 = 8 := i32_of hx32 (by decide)
          refine M.blk (is := [(.aload_n 1, 1, 0, 0), (.aload_n 0, 0, 0, 0), (.iload_n 3, 3, 0, 0), (.iconst 1, 0, 0, 1), (.iadd, 0, 0, 0)]) (pc1 := 287) (lo1 := [(0, .ref 99), (1, .ref 100), (2, .ref 0), (3, .int (nI i))]) (st1 := [.int ((nI i) + 1), .ref 99, .ref 100]) (w1 := (JW pl sl pgC stC PA PS BA BS MA MS Mh)) (by decide +kernel) rfl ?_
          refine M.sca (j := (i + 1)) (nx := 288) hL (by decide +kernel) (by rw [nI_1]) (by omega) ?_
          refine M.blk (is := [(.aload_n 0, 0, 0, 0), (.iload_n 3, 3, 0, 0), (.iconst 2, 0, 0, 2), (.iadd, 0, 0, 0)]) (pc1 := 292) (lo1 := [(0, .ref 99), (1, .ref 100), (2, .ref 0), (3, .int (nI i))]) (st1 := [.int ((nI i) + 2), .ref 99, .int (xs (i + 1)), .ref 100]) (w1 := (JW pl sl pgC stC PA PS BA BS MA MS Mh)) (by decide +kernel) rfl ?_
          refine M.sca (j := (i + 2)) (nx := 293) hL (by decide +kernel) (by rw [show (2 : Int32) = nI 2 from rfl, nI_add]) (by omega) ?_
          obtain ⟨Px, hX, hXX⟩ := j_cell (Mh := Mh) hJ (xs (i + 1)) (xs (i + 2))
          refine M.callV (as := [.int (xs (i + 1)), .int (xs (i + 2))]) (st := []) (nx := 296) okX3_cell lkL_49 hX (by decide +kernel) (by decide) rfl (Nat.le_of_ble_eq_true rfl) rfl (by decide) ⟨by decide, by decide⟩ ?_
          intro r1 w1 hq
          obtain ⟨y, fs, Pm, rfl, hlk, hCm, hPm⟩ := hXX r1 w1 hq
          show g 25 1460 296 [(0, .ref 99), (1, .ref 100), (2, .ref 0), (3, .int (nI i))] [.int y] w1
          refine M.blk (is := [(.aload_n 2, 2, 0, 0), (.aload_n 0, 0, 0, 0), (.iload_n 3, 3, 0, 0), (.iconst 1, 0, 0, 1), (.iadd, 0, 0, 0)]) (pc1 := 301) (lo1 := [(0, .ref 99), (1, .ref 100), (2, .ref 0), (3, .int (nI i))]) (st1 := [.int ((nI i) + 1), .ref 99, .ref 0, .int y]) (w1 := w1) (by decide +kernel) rfl ?_
          refine M.sca (j := (i + 1)) (nx := 302) hL (by decide +kernel) (by rw [nI_1]) (by omega) ?_
          refine M.blk (is := [(.aload_n 0, 0, 0, 0), (.iload_n 3, 3, 0, 0), (.iconst 2, 0, 0, 2), (.iadd, 0, 0, 0)]) (pc1 := 306) (lo1 := [(0, .ref 99), (1, .ref 100), (2, .ref 0), (3, .int (nI i))]) (st1 := [.int ((nI i) + 2), .ref 99, .int (xs (i + 1)), .ref 0, .int y]) (w1 := w1) (by decide +kernel) rfl ?_
          refine M.sca (j := (i + 2)) (nx := 307) hL (by decide +kernel) (by rw [show (2 : Int32) = nI 2 from rfl, nI_add]) (by omega) ?_
          refine M.callV (as := [.int (xs (i + 1)), .int (xs (i + 2))]) (st := [.int y]) (nx := 310) okX4_cell lkL_52 hCm (by decide +kernel) (by decide) rfl (Nat.le_of_ble_eq_true rfl) hlk (by decide) ⟨by decide, by decide⟩ ?_
          intro r2 w2 hq2
          obtain ⟨rfl, hJ2⟩ := hPm r2 w2 hq2
          show g 25 1460 310 [(0, .ref 99), (1, .ref 100), (2, .ref 0), (3, .int (nI i))] [.int y, .int y] w2
          refine M.icmp_eq (off := 164) (tgt := 474) (nx := 313) (by decide +kernel) (fun z310 => ?_) (fun z310 => by exfalso; exact z310 rfl)
          refine M.blk (is := [(.iinc 3 4, 3, 0, 4), (.goto (-459), 18, 0, 0)]) (pc1 := 18) (lo1 := [(3, .int ((nI i) + 4)), (0, .ref 99), (1, .ref 100), (2, .ref 0)]) (st1 := []) (w1 := w2) (by decide +kernel) rfl ?_
          refine M.lsub [1, 2, 3, 0] (lo1 := [(0, .ref 99), (1, .ref 100), (2, .ref 0), (3, .int ((nI i) + 4))]) rfl ?_
          rw [show nI i + 4 = nI (i + 4) by rw [show (4 : Int32) = nI 4 from rfl, nI_add]]
          exact ih (i + 4) _ (by omega) (by omega) hJ2
        | 9, hj, hx32 =>
          cases hj
          have hx32 : (xs i) &&& 15 = 9 := i32_of hx32 (by decide)
          refine M.blk (is := [(.aload_n 1, 1, 0, 0), (.aload_n 0, 0, 0, 0), (.iload_n 3, 3, 0, 0), (.iconst 1, 0, 0, 1), (.iadd, 0, 0, 0)]) (pc1 := 320) (lo1 := [(0, .ref 99), (1, .ref 100), (2, .ref 0), (3, .int (nI i))]) (st1 := [.int ((nI i) + 1), .ref 99, .ref 100]) (w1 := (JW pl sl pgC stC PA PS BA BS MA MS Mh)) (by decide +kernel) rfl ?_
          refine M.sca (j := (i + 1)) (nx := 321) hL (by decide +kernel) (by rw [nI_1]) (by omega) ?_
          obtain ⟨Px, hX, hXX⟩ := j_at (Mh := Mh) hJ (xs (i + 1))
          refine M.callV (as := [.int (xs (i + 1))]) (st := []) (nx := 324) okX3_at lkL_53 hX (by decide +kernel) (by decide) rfl (Nat.le_of_ble_eq_true rfl) rfl (by decide) ⟨by decide, by decide⟩ ?_
          intro r1 w1 hq
          obtain ⟨y, fs, Pm, rfl, hlk, hCm, hPm⟩ := hXX r1 w1 hq
          show g 25 1460 324 [(0, .ref 99), (1, .ref 100), (2, .ref 0), (3, .int (nI i))] [.int y] w1
          refine M.blk (is := [(.aload_n 2, 2, 0, 0), (.aload_n 0, 0, 0, 0), (.iload_n 3, 3, 0, 0), (.iconst 1, 0, 0, 1), (.iadd, 0, 0, 0)]) (pc1 := 329) (lo1 := [(0, .ref 99), (1, .ref 100), (2, .ref 0), (3, .int (nI i))]) (st1 := [.int ((nI i) + 1), .ref 99, .ref 0, .int y]) (w1 := w1) (by decide +kernel) rfl ?_
          refine M.sca (j := (i + 1)) (nx := 330) hL (by decide +kernel) (by rw [nI_1]) (by omega) ?_
          refine M.callV (as := [.int (xs (i + 1))]) (st := [.int y]) (nx := 333) okX4_at lkL_56 hCm (by decide +kernel) (by decide) rfl (Nat.le_of_ble_eq_true rfl) hlk (by decide) ⟨by decide, by decide⟩ ?_
          intro r2 w2 hq2
          obtain ⟨rfl, hJ2⟩ := hPm r2 w2 hq2
          show g 25 1460 333 [(0, .ref 99), (1, .ref 100), (2, .ref 0), (3, .int (nI i))] [.int y, .int y] w2
          refine M.icmp_eq (off := 141) (tgt := 474) (nx := 336) (by decide +kernel) (fun z333 => ?_) (fun z333 => by exfalso; exact z333 rfl)
          refine M.blk (is := [(.iinc 3 4, 3, 0, 4), (.goto (-459), 18, 0, 0)]) (pc1 := 18) (lo1 := [(3, .int ((nI i) + 4)), (0, .ref 99), (1, .ref 100), (2, .ref 0)]) (st1 := []) (w1 := w2) (by decide +kernel) rfl ?_
          refine M.lsub [1, 2, 3, 0] (lo1 := [(0, .ref 99), (1, .ref 100), (2, .ref 0), (3, .int ((nI i) + 4))]) rfl ?_
          rw [show nI i + 4 = nI (i + 4) by rw [show (4 : Int32) = nI 4 from rfl, nI_add]]
          exact ih (i + 4) _ (by omega) (by omega) hJ2
        | 10, hj, hx32 =>
          cases hj
          have hx32 : (xs i) &&& 15 = 10 := i32_of hx32 (by decide)
          refine M.blk (is := [(.aload_n 1, 1, 0, 0), (.aload_n 0, 0, 0, 0), (.iload_n 3, 3, 0, 0), (.iconst 1, 0, 0, 1), (.iadd, 0, 0, 0)]) (pc1 := 343) (lo1 := [(0, .ref 99), (1, .ref 100), (2, .ref 0), (3, .int (nI i))]) (st1 := [.int ((nI i) + 1), .ref 99, .ref 100]) (w1 := (JW pl sl pgC stC PA PS BA BS MA MS Mh)) (by decide +kernel) rfl ?_
          refine M.sca (j := (i + 1)) (nx := 344) hL (by decide +kernel) (by rw [nI_1]) (by omega) ?_
          refine M.blk (is := [(.aload_n 0, 0, 0, 0), (.iload_n 3, 3, 0, 0), (.iconst 2, 0, 0, 2), (.iadd, 0, 0, 0)]) (pc1 := 348) (lo1 := [(0, .ref 99), (1, .ref 100), (2, .ref 0), (3, .int (nI i))]) (st1 := [.int ((nI i) + 2), .ref 99, .int (xs (i + 1)), .ref 100]) (w1 := (JW pl sl pgC stC PA PS BA BS MA MS Mh)) (by decide +kernel) rfl ?_
          refine M.sca (j := (i + 2)) (nx := 349) hL (by decide +kernel) (by rw [show (2 : Int32) = nI 2 from rfl, nI_add]) (by omega) ?_
          obtain ⟨Px, hX, hXX⟩ := j_run (Mh := Mh) hJ (xs (i + 1)) (xs (i + 2))
          refine M.callV (as := [.int (xs (i + 1)), .int (xs (i + 2))]) (st := []) (nx := 352) okX3_run lkL_57 hX (by decide +kernel) (by decide) rfl (Nat.le_of_ble_eq_true rfl) rfl (by decide) ⟨by decide, by decide⟩ ?_
          intro r1 w1 hq
          obtain ⟨y, fs, Pm, rfl, hlk, hCm, hPm⟩ := hXX r1 w1 hq
          show g 25 1460 352 [(0, .ref 99), (1, .ref 100), (2, .ref 0), (3, .int (nI i))] [.int y] w1
          refine M.blk (is := [(.aload_n 2, 2, 0, 0), (.aload_n 0, 0, 0, 0), (.iload_n 3, 3, 0, 0), (.iconst 1, 0, 0, 1), (.iadd, 0, 0, 0)]) (pc1 := 357) (lo1 := [(0, .ref 99), (1, .ref 100), (2, .ref 0), (3, .int (nI i))]) (st1 := [.int ((nI i) + 1), .ref 99, .ref 0, .int y]) (w1 := w1) (by decide +kernel) rfl ?_
          refine M.sca (j := (i + 1)) (nx := 358) hL (by decide +kernel) (by rw [nI_1]) (by omega) ?_
          refine M.blk (is := [(.aload_n 0, 0, 0, 0), (.iload_n 3, 3, 0, 0), (.iconst 2, 0, 0, 2), (.iadd, 0, 0, 0)]) (pc1 := 362) (lo1 := [(0, .ref 99), (1, .ref 100), (2, .ref 0), (3, .int (nI i))]) (st1 := [.int ((nI i) + 2), .ref 99, .int (xs (i + 1)), .ref 0, .int y]) (w1 := w1) (by decide +kernel) rfl ?_
          refine M.sca (j := (i + 2)) (nx := 363) hL (by decide +kernel) (by rw [show (2 : Int32) = nI 2 from rfl, nI_add]) (by omega) ?_
          refine M.callV (as := [.int (xs (i + 1)), .int (xs (i + 2))]) (st := [.int y]) (nx := 366) okX4_run lkL_60 hCm (by decide +kernel) (by decide) rfl (Nat.le_of_ble_eq_true rfl) hlk (by decide) ⟨by decide, by decide⟩ ?_
          intro r2 w2 hq2
          obtain ⟨rfl, hJ2⟩ := hPm r2 w2 hq2
          show g 25 1460 366 [(0, .ref 99), (1, .ref 100), (2, .ref 0), (3, .int (nI i))] [.int y, .int y] w2
          refine M.icmp_eq (off := 108) (tgt := 474) (nx := 369) (by decide +kernel) (fun z366 => ?_) (fun z366 => by exfalso; exact z366 rfl)
          refine M.blk (is := [(.iinc 3 4, 3, 0, 4), (.goto (-459), 18, 0, 0)]) (pc1 := 18) (lo1 := [(3, .int ((nI i) + 4)), (0, .ref 99), (1, .ref 100), (2, .ref 0)]) (st1 := []) (w1 := w2) (by decide +kernel) rfl ?_
          refine M.lsub [1, 2, 3, 0] (lo1 := [(0, .ref 99), (1, .ref 100), (2, .ref 0), (3, .int ((nI i) + 4))]) rfl ?_
          rw [show nI i + 4 = nI (i + 4) by rw [show (4 : Int32) = nI 4 from rfl, nI_add]]
          exact ih (i + 4) _ (by omega) (by omega) hJ2
        | 11, hj, hx32 =>
          cases hj
          have hx32 : (xs i) &&& 15 = 11 := i32_of hx32 (by decide)
          refine M.blk (is := [(.aload_n 1, 1, 0, 0), (.aload_n 0, 0, 0, 0), (.iload_n 3, 3, 0, 0), (.iconst 1, 0, 0, 1), (.iadd, 0, 0, 0)]) (pc1 := 376) (lo1 := [(0, .ref 99), (1, .ref 100), (2, .ref 0), (3, .int (nI i))]) (st1 := [.int ((nI i) + 1), .ref 99, .ref 100]) (w1 := (JW pl sl pgC stC PA PS BA BS MA MS Mh)) (by decide +kernel) rfl ?_
          refine M.sca (j := (i + 1)) (nx := 377) hL (by decide +kernel) (by rw [nI_1]) (by omega) ?_
          refine M.blk (is := [(.aload_n 0, 0, 0, 0), (.iload_n 3, 3, 0, 0), (.iconst 2, 0, 0, 2), (.iadd, 0, 0, 0)]) (pc1 := 381) (lo1 := [(0, .ref 99), (1, .ref 100), (2, .ref 0), (3, .int (nI i))]) (st1 := [.int ((nI i) + 2), .ref 99, .int (xs (i + 1)), .ref 100]) (w1 := (JW pl sl pgC stC PA PS BA BS MA MS Mh)) (by decide +kernel) rfl ?_
          refine M.sca (j := (i + 2)) (nx := 382) hL (by decide +kernel) (by rw [show (2 : Int32) = nI 2 from rfl, nI_add]) (by omega) ?_
          refine M.blk (is := [(.aload_n 0, 0, 0, 0), (.iload_n 3, 3, 0, 0), (.iconst 3, 0, 0, 3), (.iadd, 0, 0, 0)]) (pc1 := 386) (lo1 := [(0, .ref 99), (1, .ref 100), (2, .ref 0), (3, .int (nI i))]) (st1 := [.int ((nI i) + 3), .ref 99, .int (xs (i + 2)), .int (xs (i + 1)), .ref 100]) (w1 := (JW pl sl pgC stC PA PS BA BS MA MS Mh)) (by decide +kernel) rfl ?_
          refine M.sca (j := (i + 3)) (nx := 387) hL (by decide +kernel) (by rw [show (3 : Int32) = nI 3 from rfl, nI_add]) (by omega) ?_
          obtain ⟨Px, hX, hXX⟩ := j_found (Mh := Mh) hJ (xs (i + 1)) (xs (i + 2)) (xs (i + 3))
          refine M.callV (as := [.int (xs (i + 1)), .int (xs (i + 2)), .int (xs (i + 3))]) (st := []) (nx := 390) okX3_found lkL_61 hX (by decide +kernel) (by decide) rfl (Nat.le_of_ble_eq_true rfl) rfl (by decide) ⟨by decide, by decide⟩ ?_
          intro r1 w1 hq
          obtain ⟨y, fs, Pm, rfl, hlk, hCm, hPm⟩ := hXX r1 w1 hq
          show g 25 1460 390 [(0, .ref 99), (1, .ref 100), (2, .ref 0), (3, .int (nI i))] [.int y] w1
          refine M.blk (is := [(.aload_n 2, 2, 0, 0), (.aload_n 0, 0, 0, 0), (.iload_n 3, 3, 0, 0), (.iconst 1, 0, 0, 1), (.iadd, 0, 0, 0)]) (pc1 := 395) (lo1 := [(0, .ref 99), (1, .ref 100), (2, .ref 0), (3, .int (nI i))]) (st1 := [.int ((nI i) + 1), .ref 99, .ref 0, .int y]) (w1 := w1) (by decide +kernel) rfl ?_
          refine M.sca (j := (i + 1)) (nx := 396) hL (by decide +kernel) (by rw [nI_1]) (by omega) ?_
          refine M.blk (is := [(.aload_n 0, 0, 0, 0), (.iload_n 3, 3, 0, 0), (.iconst 2, 0, 0, 2), (.iadd, 0, 0, 0)]) (pc1 := 400) (lo1 := [(0, .ref 99), (1, .ref 100), (2, .ref 0), (3, .int (nI i))]) (st1 := [.int ((nI i) + 2), .ref 99, .int (xs (i + 1)), .ref 0, .int y]) (w1 := w1) (by decide +kernel) rfl ?_
          refine M.sca (j := (i + 2)) (nx := 401) hL (by decide +kernel) (by rw [show (2 : Int32) = nI 2 from rfl, nI_add]) (by omega) ?_
          refine M.blk (is := [(.aload_n 0, 0, 0, 0), (.iload_n 3, 3, 0, 0), (.iconst 3, 0, 0, 3), (.iadd, 0, 0, 0)]) (pc1 := 405) (lo1 := [(0, .ref 99), (1, .ref 100), (2, .ref 0), (3, .int (nI i))]) (st1 := [.int ((nI i) + 3), .ref 99, .int (xs (i + 2)), .int (xs (i + 1)), .ref 0, .int y]) (w1 := w1) (by decide +kernel) rfl ?_
          refine M.sca (j := (i + 3)) (nx := 406) hL (by decide +kernel) (by rw [show (3 : Int32) = nI 3 from rfl, nI_add]) (by omega) ?_
          refine M.callV (as := [.int (xs (i + 1)), .int (xs (i + 2)), .int (xs (i + 3))]) (st := [.int y]) (nx := 409) okX4_found lkL_64 hCm (by decide +kernel) (by decide) rfl (Nat.le_of_ble_eq_true rfl) hlk (by decide) ⟨by decide, by decide⟩ ?_
          intro r2 w2 hq2
          obtain ⟨rfl, hJ2⟩ := hPm r2 w2 hq2
          show g 25 1460 409 [(0, .ref 99), (1, .ref 100), (2, .ref 0), (3, .int (nI i))] [.int y, .int y] w2
          refine M.icmp_eq (off := 65) (tgt := 474) (nx := 412) (by decide +kernel) (fun z409 => ?_) (fun z409 => by exfalso; exact z409 rfl)
          refine M.blk (is := [(.iinc 3 4, 3, 0, 4), (.goto (-459), 18, 0, 0)]) (pc1 := 18) (lo1 := [(3, .int ((nI i) + 4)), (0, .ref 99), (1, .ref 100), (2, .ref 0)]) (st1 := []) (w1 := w2) (by decide +kernel) rfl ?_
          refine M.lsub [1, 2, 3, 0] (lo1 := [(0, .ref 99), (1, .ref 100), (2, .ref 0), (3, .int ((nI i) + 4))]) rfl ?_
          rw [show nI i + 4 = nI (i + 4) by rw [show (4 : Int32) = nI 4 from rfl, nI_add]]
          exact ih (i + 4) _ (by omega) (by omega) hJ2
        | 12, hj, hx32 =>
          cases hj
          have hx32 : (xs i) &&& 15 = 12 := i32_of hx32 (by decide)
          refine M.blk (is := [(.aload_n 1, 1, 0, 0), (.aload_n 0, 0, 0, 0), (.iload_n 3, 3, 0, 0), (.iconst 1, 0, 0, 1), (.iadd, 0, 0, 0)]) (pc1 := 419) (lo1 := [(0, .ref 99), (1, .ref 100), (2, .ref 0), (3, .int (nI i))]) (st1 := [.int ((nI i) + 1), .ref 99, .ref 100]) (w1 := (JW pl sl pgC stC PA PS BA BS MA MS Mh)) (by decide +kernel) rfl ?_
          refine M.sca (j := (i + 1)) (nx := 420) hL (by decide +kernel) (by rw [nI_1]) (by omega) ?_
          obtain ⟨Px, hX, hXX⟩ := j_seen (Mh := Mh) hJ (xs (i + 1))
          refine M.callV (as := [.int (xs (i + 1))]) (st := []) (nx := 423) okX3_seen lkL_65 hX (by decide +kernel) (by decide) rfl (Nat.le_of_ble_eq_true rfl) rfl (by decide) ⟨by decide, by decide⟩ ?_
          intro r1 w1 hq
          obtain ⟨y, fs, Pm, rfl, hlk, hCm, hPm⟩ := hXX r1 w1 hq
          show g 25 1460 423 [(0, .ref 99), (1, .ref 100), (2, .ref 0), (3, .int (nI i))] [.int y] w1
          refine M.blk (is := [(.aload_n 2, 2, 0, 0), (.aload_n 0, 0, 0, 0), (.iload_n 3, 3, 0, 0), (.iconst 1, 0, 0, 1), (.iadd, 0, 0, 0)]) (pc1 := 428) (lo1 := [(0, .ref 99), (1, .ref 100), (2, .ref 0), (3, .int (nI i))]) (st1 := [.int ((nI i) + 1), .ref 99, .ref 0, .int y]) (w1 := w1) (by decide +kernel) rfl ?_
          refine M.sca (j := (i + 1)) (nx := 429) hL (by decide +kernel) (by rw [nI_1]) (by omega) ?_
          refine M.callV (as := [.int (xs (i + 1))]) (st := [.int y]) (nx := 432) okX4_seen lkL_68 hCm (by decide +kernel) (by decide) rfl (Nat.le_of_ble_eq_true rfl) hlk (by decide) ⟨by decide, by decide⟩ ?_
          intro r2 w2 hq2
          obtain ⟨rfl, hJ2⟩ := hPm r2 w2 hq2
          show g 25 1460 432 [(0, .ref 99), (1, .ref 100), (2, .ref 0), (3, .int (nI i))] [.int y, .int y] w2
          refine M.icmp_eq (off := 42) (tgt := 474) (nx := 435) (by decide +kernel) (fun z432 => ?_) (fun z432 => by exfalso; exact z432 rfl)
          refine M.blk (is := [(.iinc 3 4, 3, 0, 4), (.goto (-459), 18, 0, 0)]) (pc1 := 18) (lo1 := [(3, .int ((nI i) + 4)), (0, .ref 99), (1, .ref 100), (2, .ref 0)]) (st1 := []) (w1 := w2) (by decide +kernel) rfl ?_
          refine M.lsub [1, 2, 3, 0] (lo1 := [(0, .ref 99), (1, .ref 100), (2, .ref 0), (3, .int ((nI i) + 4))]) rfl ?_
          rw [show nI i + 4 = nI (i + 4) by rw [show (4 : Int32) = nI 4 from rfl, nI_add]]
          exact ih (i + 4) _ (by omega) (by omega) hJ2
        | 13, hj, hx32 =>
          cases hj
          have hx32 : (xs i) &&& 15 = 13 := i32_of hx32 (by decide)
          refine M.blk (is := [(.aload_n 1, 1, 0, 0), (.aload_n 0, 0, 0, 0), (.iload_n 3, 3, 0, 0), (.iconst 1, 0, 0, 1), (.iadd, 0, 0, 0)]) (pc1 := 442) (lo1 := [(0, .ref 99), (1, .ref 100), (2, .ref 0), (3, .int (nI i))]) (st1 := [.int ((nI i) + 1), .ref 99, .ref 100]) (w1 := (JW pl sl pgC stC PA PS BA BS MA MS Mh)) (by decide +kernel) rfl ?_
          refine M.sca (j := (i + 1)) (nx := 443) hL (by decide +kernel) (by rw [nI_1]) (by omega) ?_
          obtain ⟨Px, hX, hXX⟩ := j_count (Mh := Mh) hJ (xs (i + 1))
          refine M.callV (as := [.int (xs (i + 1))]) (st := []) (nx := 446) okX3_count lkL_69 hX (by decide +kernel) (by decide) rfl (Nat.le_of_ble_eq_true rfl) rfl (by decide) ⟨by decide, by decide⟩ ?_
          intro r1 w1 hq
          obtain ⟨y, fs, Pm, rfl, hlk, hCm, hPm⟩ := hXX r1 w1 hq
          show g 25 1460 446 [(0, .ref 99), (1, .ref 100), (2, .ref 0), (3, .int (nI i))] [.int y] w1
          refine M.blk (is := [(.aload_n 2, 2, 0, 0), (.aload_n 0, 0, 0, 0), (.iload_n 3, 3, 0, 0), (.iconst 1, 0, 0, 1), (.iadd, 0, 0, 0)]) (pc1 := 451) (lo1 := [(0, .ref 99), (1, .ref 100), (2, .ref 0), (3, .int (nI i))]) (st1 := [.int ((nI i) + 1), .ref 99, .ref 0, .int y]) (w1 := w1) (by decide +kernel) rfl ?_
          refine M.sca (j := (i + 1)) (nx := 452) hL (by decide +kernel) (by rw [nI_1]) (by omega) ?_
          refine M.callV (as := [.int (xs (i + 1))]) (st := [.int y]) (nx := 455) okX4_count lkL_72 hCm (by decide +kernel) (by decide) rfl (Nat.le_of_ble_eq_true rfl) hlk (by decide) ⟨by decide, by decide⟩ ?_
          intro r2 w2 hq2
          obtain ⟨rfl, hJ2⟩ := hPm r2 w2 hq2
          show g 25 1460 455 [(0, .ref 99), (1, .ref 100), (2, .ref 0), (3, .int (nI i))] [.int y, .int y] w2
          refine M.icmp_eq (off := 19) (tgt := 474) (nx := 458) (by decide +kernel) (fun z455 => ?_) (fun z455 => by exfalso; exact z455 rfl)
          refine M.blk (is := [(.iinc 3 4, 3, 0, 4), (.goto (-459), 18, 0, 0)]) (pc1 := 18) (lo1 := [(3, .int ((nI i) + 4)), (0, .ref 99), (1, .ref 100), (2, .ref 0)]) (st1 := []) (w1 := w2) (by decide +kernel) rfl ?_
          refine M.lsub [1, 2, 3, 0] (lo1 := [(0, .ref 99), (1, .ref 100), (2, .ref 0), (3, .int ((nI i) + 4))]) rfl ?_
          rw [show nI i + 4 = nI (i + 4) by rw [show (4 : Int32) = nI 4 from rfl, nI_add]]
          exact ih (i + 4) _ (by omega) (by omega) hJ2
        | 14, hj, hx32 =>
          cases hj
          have hx32 : (xs i) &&& 15 = 14 := i32_of hx32 (by decide)
          refine M.blk (is := [(.aload_n 1, 1, 0, 0)]) (pc1 := 461) (lo1 := [(0, .ref 99), (1, .ref 100), (2, .ref 0), (3, .int (nI i))]) (st1 := [.ref 100]) (w1 := (JW pl sl pgC stC PA PS BA BS MA MS Mh)) (by decide +kernel) rfl ?_
          obtain ⟨Px, hX, hXX⟩ := j_digest (Mh := Mh) hJ
          refine M.callV (as := []) (st := []) (nx := 464) okX3_digest lkL_73 hX (by decide +kernel) (by decide) rfl (Nat.le_of_ble_eq_true rfl) rfl (by decide) ⟨by decide, by decide⟩ ?_
          intro r1 w1 hq
          obtain ⟨y, fs, Pm, rfl, hlk, hCm, hPm⟩ := hXX r1 w1 hq
          show g 25 1460 464 [(0, .ref 99), (1, .ref 100), (2, .ref 0), (3, .int (nI i))] [.long y] w1
          refine M.blk (is := [(.aload_n 2, 2, 0, 0)]) (pc1 := 465) (lo1 := [(0, .ref 99), (1, .ref 100), (2, .ref 0), (3, .int (nI i))]) (st1 := [.ref 0, .long y]) (w1 := w1) (by decide +kernel) rfl ?_
          refine M.callV (as := []) (st := [.long y]) (nx := 468) okX4_digest lkL_77 hCm (by decide +kernel) (by decide) rfl (Nat.le_of_ble_eq_true rfl) hlk (by decide) ⟨by decide, by decide⟩ ?_
          intro r2 w2 hq2
          obtain ⟨rfl, hJ2⟩ := hPm r2 w2 hq2
          show g 25 1460 468 [(0, .ref 99), (1, .ref 100), (2, .ref 0), (3, .int (nI i))] [.long y, .long y] w2
          refine M.blk (is := [(.lcmp, 0, 0, 0)]) (pc1 := 469) (lo1 := [(0, .ref 99), (1, .ref 100), (2, .ref 0), (3, .int (nI i))]) (st1 := [.int (lg_cmp y y)]) (w1 := w2) (by decide +kernel) rfl ?_
          refine M.if_eq (off := 5) (tgt := 474) (nx := 472) (by decide +kernel) (fun z469 => ?_) (fun z469 => by exfalso; exact z469 (lg_self y))
          refine M.blk (is := [(.iinc 3 4, 3, 0, 4), (.goto (-459), 18, 0, 0)]) (pc1 := 18) (lo1 := [(3, .int ((nI i) + 4)), (0, .ref 99), (1, .ref 100), (2, .ref 0)]) (st1 := []) (w1 := w2) (by decide +kernel) rfl ?_
          refine M.lsub [1, 2, 3, 0] (lo1 := [(0, .ref 99), (1, .ref 100), (2, .ref 0), (3, .int ((nI i) + 4))]) rfl ?_
          rw [show nI i + 4 = nI (i + 4) by rw [show (4 : Int32) = nI 4 from rfl, nI_add]]
          exact ih (i + 4) _ (by omega) (by omega) hJ2
        | j + 15, hj, _ => exact absurd hj (by simp)
      · refine M.blk (is := [(.iinc 3 4, 3, 0, 4), (.goto (-459), 18, 0, 0)]) (pc1 := 18) (lo1 := [(3, .int ((nI i) + 4)), (0, .ref 99), (1, .ref 100), (2, .ref 0)]) (st1 := []) (w1 := (JW pl sl pgC stC PA PS BA BS MA MS Mh)) (by decide +kernel) rfl ?_
        refine M.lsub [1, 2, 3, 0] (lo1 := [(0, .ref 99), (1, .ref 100), (2, .ref 0), (3, .int ((nI i) + 4))]) rfl ?_
        rw [show nI i + 4 = nI (i + 4) by rw [show (4 : Int32) = nI 4 from rfl, nI_add]]
        exact ih (i + 4) _ (by omega) (by omega) ⟨_, _, _, _, _, _, _, _, _, _, _, _, _, _, _, _, rfl, hJ⟩
    · exact ex i w h4 h2
theorem law_run {L : Nat} {xs : Nat → Int32} {g : Nat → Nat → Nat → Lo → List Value → Wd → Prop} (hL : L ≤ 2048) (M : Mach 14 mL_law 25 1460 (fun r _ => r = some (.int 1)) L xs g) : g 0 0 0 [(0, .ref 99)] [] ([], []) := by
  refine M.new (ci := 3) (idx := 7) (k := 100) (fs := [.null, .null, .null, .null]) (w1 := ([], [(.inl (3, [.null, .null, .null, .null]))])) (nx := 3) (by decide +kernel) (lw_in 61 (by decide +kernel) (by decide +kernel)) (lw_in 62 (by decide +kernel) (by decide +kernel)) (lw_in 54 (by decide +kernel) (by decide +kernel)) (by decide) (fun j hj => match j, hj with | 0, _ => rfl | 1, _ => rfl | 2, _ => rfl | 3, _ => rfl | n + 4, h => absurd h (by show ¬ n + 4 < 4; omega)) (fun _ => rfl) (Or.inl ⟨rfl, rfl, rfl⟩) (by decide) (by decide) ?_
  show g 1 4 3 [(0, .ref 99)] [.ref 100] ([], [(.inl (3, [.null, .null, .null, .null]))])
  refine M.blk (is := [(.dup, 0, 0, 0)]) (pc1 := 4) (lo1 := [(0, .ref 99)]) (st1 := [.ref 100, .ref 100]) (w1 := ([], [(.inl (3, [.null, .null, .null, .null]))])) (by decide +kernel) rfl ?_
  refine M.callI (as := []) (st := [.ref 100]) (nx := 7) okX3_init rfl lkL_9 (n_x) (by decide +kernel) (by decide) rfl (Nat.le_of_ble_eq_true rfl) ⟨by decide, by decide⟩ ?_
  rintro r0 w1 ⟨rfl, PB, PT, rfl, hp⟩
  show g 19 909 7 [(0, .ref 99)] [.ref 100] (WX (fun _ => 0) 0 (fun _ => 0) 0 PB PT (fun _ _ => 0) (fun _ => 0) [])
  refine M.blk (is := [(.astore_n 1, 1, 0, 0)]) (pc1 := 8) (lo1 := [(1, .ref 100), (0, .ref 99)]) (st1 := []) (w1 := (WX (fun _ => 0) 0 (fun _ => 0) 0 PB PT (fun _ _ => 0) (fun _ => 0) [])) (by decide +kernel) rfl ?_
  show g 19 909 8 [(1, .ref 100), (0, .ref 99)] [] ([], (XL (fun _ => 0) 0 (fun _ => 0) 0 PB PT (fun _ _ => 0) (fun _ => 0)))
  refine M.new (ci := 4) (idx := 10) (k := 0) (fs := [.int 0, .null, .int 0, .null, .int 0, .int 0, .int 0, .int 0, .int 0, .int 0, .int 0, .int 0, .int 0, .int 0, .int 0, .int 0, .int 0, .int 0, .int 0, .int 0, .int 0, .int 0, .int 0, .null, .null, .null, .long 0]) (w1 := ([(.inl (4, [.int 0, .null, .int 0, .null, .int 0, .int 0, .int 0, .int 0, .int 0, .int 0, .int 0, .int 0, .int 0, .int 0, .int 0, .int 0, .int 0, .int 0, .int 0, .int 0, .int 0, .int 0, .int 0, .null, .null, .null, .long 0]))], (XL (fun _ => 0) 0 (fun _ => 0) 0 PB PT (fun _ _ => 0) (fun _ => 0)))) (nx := 11) (by decide +kernel) (lw_in 498 (by decide +kernel) (by decide +kernel)) (lw_in 499 (by decide +kernel) (by decide +kernel)) (lw_in 58 (by decide +kernel) (by decide +kernel)) (by decide) (fun j hj => match j, hj with | 0, _ => rfl | 1, _ => rfl | 2, _ => rfl | 3, _ => rfl | 4, _ => rfl | 5, _ => rfl | 6, _ => rfl | 7, _ => rfl | 8, _ => rfl | 9, _ => rfl | 10, _ => rfl | 11, _ => rfl | 12, _ => rfl | 13, _ => rfl | 14, _ => rfl | 15, _ => rfl | 16, _ => rfl | 17, _ => rfl | 18, _ => rfl | 19, _ => rfl | 20, _ => rfl | 21, _ => rfl | 22, _ => rfl | 23, _ => rfl | 24, _ => rfl | 25, _ => rfl | 26, _ => rfl | n + 27, h => absurd h (by show ¬ n + 27 < 27; omega)) (fun _ => rfl) (Or.inr ⟨rfl, Nat.le_of_ble_eq_true rfl, rfl, rfl⟩) (by decide) (by decide) ?_
  show g 20 936 11 [(1, .ref 100), (0, .ref 99)] [.ref 0] ([(.inl (4, [.int 0, .null, .int 0, .null, .int 0, .int 0, .int 0, .int 0, .int 0, .int 0, .int 0, .int 0, .int 0, .int 0, .int 0, .int 0, .int 0, .int 0, .int 0, .int 0, .int 0, .int 0, .int 0, .null, .null, .null, .long 0]))], (XL (fun _ => 0) 0 (fun _ => 0) 0 PB PT (fun _ _ => 0) (fun _ => 0)))
  refine M.blk (is := [(.dup, 0, 0, 0)]) (pc1 := 12) (lo1 := [(1, .ref 100), (0, .ref 99)]) (st1 := [.ref 0, .ref 0]) (w1 := ([(.inl (4, [.int 0, .null, .int 0, .null, .int 0, .int 0, .int 0, .int 0, .int 0, .int 0, .int 0, .int 0, .int 0, .int 0, .int 0, .int 0, .int 0, .int 0, .int 0, .int 0, .int 0, .int 0, .int 0, .null, .null, .null, .long 0]))], (XL (fun _ => 0) 0 (fun _ => 0) 0 PB PT (fun _ _ => 0) (fun _ => 0)))) (by decide +kernel) rfl ?_
  refine M.callI (as := []) (st := [.ref 0]) (nx := 15) okX4_init rfl lkL_12 (n_m (v := (XL (fun _ => 0) 0 (fun _ => 0) 0 PB PT (fun _ _ => 0) (fun _ => 0))) rfl) (by decide +kernel) (by decide) rfl (Nat.le_of_ble_eq_true rfl) ⟨by decide, by decide⟩ ?_
  rintro r0 w1 ⟨rfl, rfl⟩
  show g 25 1460 15 [(1, .ref 100), (0, .ref 99)] [.ref 0] (WM (fun _ _ => 0) ms0 0 (XL (fun _ => 0) 0 (fun _ => 0) 0 PB PT (fun _ _ => 0) (fun _ => 0)))
  refine M.blk (is := [(.astore_n 2, 2, 0, 0)]) (pc1 := 16) (lo1 := [(2, .ref 0), (1, .ref 100), (0, .ref 99)]) (st1 := []) (w1 := (WM (fun _ _ => 0) ms0 0 (XL (fun _ => 0) 0 (fun _ => 0) 0 PB PT (fun _ _ => 0) (fun _ => 0)))) (by decide +kernel) rfl ?_
  refine M.blk (is := [(.iconst 0, 0, 0, 0), (.istore_n 3, 3, 0, 0)]) (pc1 := 18) (lo1 := [(3, .int 0), (2, .ref 0), (1, .ref 100), (0, .ref 99)]) (st1 := []) (w1 := (WM (fun _ _ => 0) ms0 0 (XL (fun _ => 0) 0 (fun _ => 0) 0 PB PT (fun _ _ => 0) (fun _ => 0)))) (by decide +kernel) rfl ?_
  refine M.lsub [3, 2, 1, 0] (lo1 := [(0, .ref 99), (1, .ref 100), (2, .ref 0), (3, .int 0)]) rfl ?_
  exact law_lp hL M L 0 _ (by omega) (by omega) ⟨0, 0, 4, 4, 1, 0, 0, fun _ => 0, fun _ => 0, PB, PT, fun _ _ => 0, fun _ => 0, fun _ _ => 0, ms0, 0, rfl, by decide, by decide, geo_new (by decide) (by decide), hp, Or.inl rfl, ⟨rfl, rfl, rfl, rfl, rfl⟩, rfl, rfl, rfl, fun j hj => absurd hj (by omega), fun j hj => absurd hj (by omega), fun j hj => absurd hj (by omega), ca_none (by decide) (fun _ _ => rfl)⟩
end LAW
