def sGet (C : Nat → Int32) (L x : Int32) : Int32 := if x < 0 then -1 else if L ≤ x then -1 else if 64 ≤ x then -1 else C x.toNatClampNeg
theorem s_clear1 {c0 : Cl} {C : Nat → Int32} {L : Int32} {rest u : List Cl} : CC 0 mX2_clear 0 0 [.ref 101] (WS1 c0 C L rest u) (Rv (WS1 c0 C 0 rest u)) := by
  refine CC.of okX2_clear.1 (Nat.le_of_ble_eq_true rfl) (fun g M => ?_)
  show g 0 0 0 [(0, .ref 101)] [] (WS1 c0 C L rest u)
  refine M.blk (is := [(.aload_n 0, 0, 0, 0), (.iconst 0, 0, 0, 0), (.putfield 15, 2, 1, 0)]) (pc1 := 5) (lo1 := [(0, .ref 101)]) (st1 := []) (w1 := (WS1 c0 C 0 rest u)) (by decide +kernel) rfl ?_
  exact M.retv (nx := 6) (by decide +kernel) ⟨rfl, rfl⟩
theorem s_get1 {c0 : Cl} {C : Nat → Int32} {L : Int32} {rest u : List Cl} (x : Int32) : CC 0 mX2_get 0 0 [.ref 101, .int x] (WS1 c0 C L rest u) (Rt (sGet C L x) (WS1 c0 C L rest u)) := by
  refine CC.of okX2_get.1 (Nat.le_of_ble_eq_true rfl) (fun g M => ?_)
  show g 0 0 0 [(0, .ref 101), (1, .int x)] [] (WS1 c0 C L rest u)
  refine M.blk (is := [(.iload_n 1, 1, 0, 0)]) (pc1 := 1) (lo1 := [(0, .ref 101), (1, .int x)]) (st1 := [.int x]) (w1 := (WS1 c0 C L rest u)) (by decide +kernel) rfl ?_
  refine M.if_lt (off := 29) (tgt := 30) (nx := 4) (by decide +kernel) (fun z1 => ?_) (fun z1 => ?_)
  · refine M.blk (is := [(.iconst (-1), 0, 0, (-1))]) (pc1 := 31) (lo1 := [(0, .ref 101), (1, .int x)]) (st1 := [.int (-1)]) (w1 := (WS1 c0 C L rest u)) (by decide +kernel) rfl ?_
    exact M.reti (nx := 32) (by decide +kernel) ⟨by simp [sGet, *], rfl⟩
  · refine M.blk (is := [(.iload_n 1, 1, 0, 0), (.aload_n 0, 0, 0, 0), (.getfield 15, 2, 1, 0)]) (pc1 := 9) (lo1 := [(0, .ref 101), (1, .int x)]) (st1 := [.int L, .int x]) (w1 := (WS1 c0 C L rest u)) (by decide +kernel) rfl ?_
    refine M.icmp_ge (off := 21) (tgt := 30) (nx := 12) (by decide +kernel) (fun z9 => ?_) (fun z9 => ?_)
    · refine M.blk (is := [(.iconst (-1), 0, 0, (-1))]) (pc1 := 31) (lo1 := [(0, .ref 101), (1, .int x)]) (st1 := [.int (-1)]) (w1 := (WS1 c0 C L rest u)) (by decide +kernel) rfl ?_
      exact M.reti (nx := 32) (by decide +kernel) ⟨by simp [sGet, *], rfl⟩
    · refine M.blk (is := [(.iload_n 1, 1, 0, 0), (.aload_n 0, 0, 0, 0), (.getfield 9, 2, 0, 0)]) (pc1 := 17) (lo1 := [(0, .ref 101), (1, .int x)]) (st1 := [.ref 102, .int x]) (w1 := (WS1 c0 C L rest u)) (by decide +kernel) rfl ?_
      refine M.alen (n := 64) (f := C) (b := false) (nx := 18) (by decide +kernel) rfl ?_
      show g 0 0 18 [(0, .ref 101), (1, .int x)] [.int 64, .int x] (WS1 c0 C L rest u)
      refine M.icmp_ge (off := 12) (tgt := 30) (nx := 21) (by decide +kernel) (fun z18 => ?_) (fun z18 => ?_)
      · refine M.blk (is := [(.iconst (-1), 0, 0, (-1))]) (pc1 := 31) (lo1 := [(0, .ref 101), (1, .int x)]) (st1 := [.int (-1)]) (w1 := (WS1 c0 C L rest u)) (by decide +kernel) rfl ?_
        exact M.reti (nx := 32) (by decide +kernel) ⟨by simp [sGet, *], rfl⟩
      · refine M.blk (is := [(.aload_n 0, 0, 0, 0), (.getfield 9, 2, 0, 0), (.iload_n 1, 1, 0, 0)]) (pc1 := 26) (lo1 := [(0, .ref 101), (1, .int x)]) (st1 := [.int x, .ref 102]) (w1 := (WS1 c0 C L rest u)) (by decide +kernel) rfl ?_
        refine M.ald (n := 64) (f := C) (j := x.toNatClampNeg) (nx := 27) (by decide +kernel) rfl (idx_of z1 z18 (by decide)).1 (idx_of z1 z18 (by decide)).2 (by decide) ?_
        refine M.blk (is := [(.goto 4, 31, 0, 0)]) (pc1 := 31) (lo1 := [(0, .ref 101), (1, .int x)]) (st1 := [.int (C x.toNatClampNeg)]) (w1 := (WS1 c0 C L rest u)) (by decide +kernel) rfl ?_
        exact M.reti (nx := 32) (by decide +kernel) ⟨by simp [sGet, *], rfl⟩
theorem s_add1 {c0 : Cl} {C : Nat → Int32} {rest u : List Cl} {n : Nat} (hn : n < 64) (x : Int32) : CC 0 mX2_add 0 0 [.ref 101, .int x] (WS1 c0 C (nI n) rest u) (Rv (WS1 c0 (upd C n x) (nI (n + 1)) rest u)) := by
  refine CC.of okX2_add.1 (Nat.le_of_ble_eq_true rfl) (fun g M => ?_)
  show g 0 0 0 [(0, .ref 101), (1, .int x)] [] (WS1 c0 C (nI n) rest u)
  refine M.blk (is := [(.aload_n 0, 0, 0, 0), (.getfield 15, 2, 1, 0)]) (pc1 := 4) (lo1 := [(0, .ref 101), (1, .int x)]) (st1 := [.int (nI n)]) (w1 := (WS1 c0 C (nI n) rest u)) (by decide +kernel) rfl ?_
  refine M.if_lt (off := 35) (tgt := 39) (nx := 7) (by decide +kernel) (fun z4 => by exfalso; exact nI_pos (by omega) z4) (fun z4 => ?_)
  refine M.blk (is := [(.aload_n 0, 0, 0, 0), (.getfield 15, 2, 1, 0), (.aload_n 0, 0, 0, 0), (.getfield 9, 2, 0, 0)]) (pc1 := 15) (lo1 := [(0, .ref 101), (1, .int x)]) (st1 := [.ref 102, .int (nI n)]) (w1 := (WS1 c0 C (nI n) rest u)) (by decide +kernel) rfl ?_
  refine M.alen (n := 64) (f := C) (b := false) (nx := 16) (by decide +kernel) rfl ?_
  show g 0 0 16 [(0, .ref 101), (1, .int x)] [.int 64, .int (nI n)] (WS1 c0 C (nI n) rest u)
  refine M.icmp_ge (off := 23) (tgt := 39) (nx := 19) (by decide +kernel) (fun z16 => by exfalso; exact nI_ge (a := n) (b := 64) hn (by decide) z16) (fun z16 => ?_)
  refine M.blk (is := [(.aload_n 0, 0, 0, 0), (.getfield 9, 2, 0, 0), (.aload_n 0, 0, 0, 0), (.getfield 15, 2, 1, 0), (.iload_n 1, 1, 0, 0)]) (pc1 := 28) (lo1 := [(0, .ref 101), (1, .int x)]) (st1 := [.int x, .int (nI n), .ref 102]) (w1 := (WS1 c0 C (nI n) rest u)) (by decide +kernel) rfl ?_
  refine M.ast (n := 64) (f := C) (j := n) (nx := 29) (by decide +kernel) rfl rfl (by omega) (by decide) ?_
  show g 0 0 29 [(0, .ref 101), (1, .int x)] [] (WS1 c0 (upd C n x) (nI n) rest u)
  refine M.blk (is := [(.aload_n 0, 0, 0, 0), (.dup, 0, 0, 0), (.getfield 15, 2, 1, 0), (.iconst 1, 0, 0, 1), (.iadd, 0, 0, 0), (.putfield 15, 2, 1, 0)]) (pc1 := 39) (lo1 := [(0, .ref 101), (1, .int x)]) (st1 := []) (w1 := (WS1 c0 (upd C n x) ((nI n) + 1) rest u)) (by decide +kernel) rfl ?_
  exact M.retv (nx := 40) (by decide +kernel) ⟨rfl, by rw [← nI_1]⟩
theorem s_clear3 {c0 c1 c2 : Cl} {C : Nat → Int32} {L : Int32} {rest u : List Cl} : CC 0 mX2_clear 0 0 [.ref 103] (WS3 c0 c1 c2 C L rest u) (Rv (WS3 c0 c1 c2 C 0 rest u)) := by
  refine CC.of okX2_clear.1 (Nat.le_of_ble_eq_true rfl) (fun g M => ?_)
  show g 0 0 0 [(0, .ref 103)] [] (WS3 c0 c1 c2 C L rest u)
  refine M.blk (is := [(.aload_n 0, 0, 0, 0), (.iconst 0, 0, 0, 0), (.putfield 15, 2, 1, 0)]) (pc1 := 5) (lo1 := [(0, .ref 103)]) (st1 := []) (w1 := (WS3 c0 c1 c2 C 0 rest u)) (by decide +kernel) rfl ?_
  exact M.retv (nx := 6) (by decide +kernel) ⟨rfl, rfl⟩
theorem s_get3 {c0 c1 c2 : Cl} {C : Nat → Int32} {L : Int32} {rest u : List Cl} (x : Int32) : CC 0 mX2_get 0 0 [.ref 103, .int x] (WS3 c0 c1 c2 C L rest u) (Rt (sGet C L x) (WS3 c0 c1 c2 C L rest u)) := by
  refine CC.of okX2_get.1 (Nat.le_of_ble_eq_true rfl) (fun g M => ?_)
  show g 0 0 0 [(0, .ref 103), (1, .int x)] [] (WS3 c0 c1 c2 C L rest u)
  refine M.blk (is := [(.iload_n 1, 1, 0, 0)]) (pc1 := 1) (lo1 := [(0, .ref 103), (1, .int x)]) (st1 := [.int x]) (w1 := (WS3 c0 c1 c2 C L rest u)) (by decide +kernel) rfl ?_
  refine M.if_lt (off := 29) (tgt := 30) (nx := 4) (by decide +kernel) (fun z1 => ?_) (fun z1 => ?_)
  · refine M.blk (is := [(.iconst (-1), 0, 0, (-1))]) (pc1 := 31) (lo1 := [(0, .ref 103), (1, .int x)]) (st1 := [.int (-1)]) (w1 := (WS3 c0 c1 c2 C L rest u)) (by decide +kernel) rfl ?_
    exact M.reti (nx := 32) (by decide +kernel) ⟨by simp [sGet, *], rfl⟩
  · refine M.blk (is := [(.iload_n 1, 1, 0, 0), (.aload_n 0, 0, 0, 0), (.getfield 15, 2, 1, 0)]) (pc1 := 9) (lo1 := [(0, .ref 103), (1, .int x)]) (st1 := [.int L, .int x]) (w1 := (WS3 c0 c1 c2 C L rest u)) (by decide +kernel) rfl ?_
    refine M.icmp_ge (off := 21) (tgt := 30) (nx := 12) (by decide +kernel) (fun z9 => ?_) (fun z9 => ?_)
    · refine M.blk (is := [(.iconst (-1), 0, 0, (-1))]) (pc1 := 31) (lo1 := [(0, .ref 103), (1, .int x)]) (st1 := [.int (-1)]) (w1 := (WS3 c0 c1 c2 C L rest u)) (by decide +kernel) rfl ?_
      exact M.reti (nx := 32) (by decide +kernel) ⟨by simp [sGet, *], rfl⟩
    · refine M.blk (is := [(.iload_n 1, 1, 0, 0), (.aload_n 0, 0, 0, 0), (.getfield 9, 2, 0, 0)]) (pc1 := 17) (lo1 := [(0, .ref 103), (1, .int x)]) (st1 := [.ref 104, .int x]) (w1 := (WS3 c0 c1 c2 C L rest u)) (by decide +kernel) rfl ?_
      refine M.alen (n := 64) (f := C) (b := false) (nx := 18) (by decide +kernel) rfl ?_
      show g 0 0 18 [(0, .ref 103), (1, .int x)] [.int 64, .int x] (WS3 c0 c1 c2 C L rest u)
      refine M.icmp_ge (off := 12) (tgt := 30) (nx := 21) (by decide +kernel) (fun z18 => ?_) (fun z18 => ?_)
      · refine M.blk (is := [(.iconst (-1), 0, 0, (-1))]) (pc1 := 31) (lo1 := [(0, .ref 103), (1, .int x)]) (st1 := [.int (-1)]) (w1 := (WS3 c0 c1 c2 C L rest u)) (by decide +kernel) rfl ?_
        exact M.reti (nx := 32) (by decide +kernel) ⟨by simp [sGet, *], rfl⟩
      · refine M.blk (is := [(.aload_n 0, 0, 0, 0), (.getfield 9, 2, 0, 0), (.iload_n 1, 1, 0, 0)]) (pc1 := 26) (lo1 := [(0, .ref 103), (1, .int x)]) (st1 := [.int x, .ref 104]) (w1 := (WS3 c0 c1 c2 C L rest u)) (by decide +kernel) rfl ?_
        refine M.ald (n := 64) (f := C) (j := x.toNatClampNeg) (nx := 27) (by decide +kernel) rfl (idx_of z1 z18 (by decide)).1 (idx_of z1 z18 (by decide)).2 (by decide) ?_
        refine M.blk (is := [(.goto 4, 31, 0, 0)]) (pc1 := 31) (lo1 := [(0, .ref 103), (1, .int x)]) (st1 := [.int (C x.toNatClampNeg)]) (w1 := (WS3 c0 c1 c2 C L rest u)) (by decide +kernel) rfl ?_
        exact M.reti (nx := 32) (by decide +kernel) ⟨by simp [sGet, *], rfl⟩
theorem s_add3 {c0 c1 c2 : Cl} {C : Nat → Int32} {rest u : List Cl} {n : Nat} (hn : n < 64) (x : Int32) : CC 0 mX2_add 0 0 [.ref 103, .int x] (WS3 c0 c1 c2 C (nI n) rest u) (Rv (WS3 c0 c1 c2 (upd C n x) (nI (n + 1)) rest u)) := by
  refine CC.of okX2_add.1 (Nat.le_of_ble_eq_true rfl) (fun g M => ?_)
  show g 0 0 0 [(0, .ref 103), (1, .int x)] [] (WS3 c0 c1 c2 C (nI n) rest u)
  refine M.blk (is := [(.aload_n 0, 0, 0, 0), (.getfield 15, 2, 1, 0)]) (pc1 := 4) (lo1 := [(0, .ref 103), (1, .int x)]) (st1 := [.int (nI n)]) (w1 := (WS3 c0 c1 c2 C (nI n) rest u)) (by decide +kernel) rfl ?_
  refine M.if_lt (off := 35) (tgt := 39) (nx := 7) (by decide +kernel) (fun z4 => by exfalso; exact nI_pos (by omega) z4) (fun z4 => ?_)
  refine M.blk (is := [(.aload_n 0, 0, 0, 0), (.getfield 15, 2, 1, 0), (.aload_n 0, 0, 0, 0), (.getfield 9, 2, 0, 0)]) (pc1 := 15) (lo1 := [(0, .ref 103), (1, .int x)]) (st1 := [.ref 104, .int (nI n)]) (w1 := (WS3 c0 c1 c2 C (nI n) rest u)) (by decide +kernel) rfl ?_
  refine M.alen (n := 64) (f := C) (b := false) (nx := 16) (by decide +kernel) rfl ?_
  show g 0 0 16 [(0, .ref 103), (1, .int x)] [.int 64, .int (nI n)] (WS3 c0 c1 c2 C (nI n) rest u)
  refine M.icmp_ge (off := 23) (tgt := 39) (nx := 19) (by decide +kernel) (fun z16 => by exfalso; exact nI_ge (a := n) (b := 64) hn (by decide) z16) (fun z16 => ?_)
  refine M.blk (is := [(.aload_n 0, 0, 0, 0), (.getfield 9, 2, 0, 0), (.aload_n 0, 0, 0, 0), (.getfield 15, 2, 1, 0), (.iload_n 1, 1, 0, 0)]) (pc1 := 28) (lo1 := [(0, .ref 103), (1, .int x)]) (st1 := [.int x, .int (nI n), .ref 104]) (w1 := (WS3 c0 c1 c2 C (nI n) rest u)) (by decide +kernel) rfl ?_
  refine M.ast (n := 64) (f := C) (j := n) (nx := 29) (by decide +kernel) rfl rfl (by omega) (by decide) ?_
  show g 0 0 29 [(0, .ref 103), (1, .int x)] [] (WS3 c0 c1 c2 (upd C n x) (nI n) rest u)
  refine M.blk (is := [(.aload_n 0, 0, 0, 0), (.dup, 0, 0, 0), (.getfield 15, 2, 1, 0), (.iconst 1, 0, 0, 1), (.iadd, 0, 0, 0), (.putfield 15, 2, 1, 0)]) (pc1 := 39) (lo1 := [(0, .ref 103), (1, .int x)]) (st1 := []) (w1 := (WS3 c0 c1 c2 (upd C n x) ((nI n) + 1) rest u)) (by decide +kernel) rfl ?_
  exact M.retv (nx := 40) (by decide +kernel) ⟨rfl, by rw [← nI_1]⟩
