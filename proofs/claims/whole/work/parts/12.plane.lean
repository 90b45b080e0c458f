section PLANE
variable {c0 c1 c2 c3 c4 : Cl} {PA : Nat → Nat → Int32} {PS : Nat → Int32} {rest u : List Cl}
def hasF (PS : Nat → Int32) (x : Int32) : Int32 := if x < 0 then 0 else if PS 9 ≤ x then 0 else if 25 ≤ x then 0 else 1
theorem hasF_idx {PS : Nat → Int32} {x : Int32} (h : ¬ hasF PS x = 0) : x = nI x.toNatClampNeg ∧ x.toNatClampNeg < 25 := by
  unfold hasF at h
  split at h
  · exact absurd rfl h
  · split at h
    · exact absurd rfl h
    · split at h
      · exact absurd rfl h
      · exact idx_of (n := 25) (by assumption) (by assumption) (by decide)
theorem hasF_nI {PS : Nat → Int32} {k m : Nat} (hm : PS 9 = nI m) (h25 : m ≤ 25) (hk : k < m) : hasF PS (nI k) = 1 := by
  unfold hasF
  rw [if_neg (nI_pos (by omega)), if_neg (by rw [hm]; exact nI_ge hk (by omega)), if_neg (show ¬ (25 : Int32) ≤ nI k from nI_ge (b := 25) (by omega) (by decide))]
theorem hasF_cases (PS : Nat → Int32) (x : Int32) {m : Nat} (hm : PS 9 = nI m) (h25 : m ≤ 25) : (hasF PS x = 0 ∧ ∀ k, k < m → ¬ x = nI k) ∨ (hasF PS x = 1 ∧ ∃ k, k < m ∧ x = nI k) := by
  rcases pk_ix x (n := m) (by omega) with h | h | ⟨j, hj, rfl⟩
  · left
    refine ⟨by unfold hasF; rw [if_pos h], fun k hk e => ?_⟩
    rw [e] at h
    exact nI_pos (by omega) h
  · left
    refine ⟨?_, fun k hk e => ?_⟩
    · unfold hasF
      split
      · rfl
      · rw [if_pos (by rw [hm]; exact h)]
    · rw [e] at h
      exact nI_ge hk (by omega) h
  · exact Or.inr ⟨hasF_nI hm h25 hj, j, hj, rfl⟩
theorem s_has (x : Int32) : CC 0 mX1_has 0 0 [.ref 105, .int x] (WP c0 c1 c2 c3 c4 PA PS rest u) (Rt (hasF PS x) (WP c0 c1 c2 c3 c4 PA PS rest u)) := by
  refine CC.of okX1_has.1 (Nat.le_of_ble_eq_true rfl) (fun g M => ?_)
  show g 0 0 0 [(0, .ref 105), (1, .int x)] [] (WP c0 c1 c2 c3 c4 PA PS rest u)
  refine M.blk (is := [(.iload_n 1, 1, 0, 0)]) (pc1 := 1) (lo1 := [(0, .ref 105), (1, .int x)]) (st1 := [.int x]) (w1 := (WP c0 c1 c2 c3 c4 PA PS rest u)) (by decide +kernel) rfl ?_
  refine M.if_lt (off := 21) (tgt := 22) (nx := 4) (by decide +kernel) (fun z1 => ?_) (fun z1 => ?_)
  · refine M.blk (is := [(.iconst 0, 0, 0, 0)]) (pc1 := 23) (lo1 := [(0, .ref 105), (1, .int x)]) (st1 := [.int 0]) (w1 := (WP c0 c1 c2 c3 c4 PA PS rest u)) (by decide +kernel) rfl ?_
    exact M.retz (nx := 24) (by decide +kernel) (by decide) ⟨by simp [hasF, *], rfl⟩
  · refine M.blk (is := [(.iload_n 1, 1, 0, 0), (.aload_n 0, 0, 0, 0), (.getfield 48, 1, 9, 0)]) (pc1 := 9) (lo1 := [(0, .ref 105), (1, .int x)]) (st1 := [.int (PS 9), .int x]) (w1 := (WP c0 c1 c2 c3 c4 PA PS rest u)) (by decide +kernel) rfl ?_
    refine M.icmp_ge (off := 13) (tgt := 22) (nx := 12) (by decide +kernel) (fun z9 => ?_) (fun z9 => ?_)
    · refine M.blk (is := [(.iconst 0, 0, 0, 0)]) (pc1 := 23) (lo1 := [(0, .ref 105), (1, .int x)]) (st1 := [.int 0]) (w1 := (WP c0 c1 c2 c3 c4 PA PS rest u)) (by decide +kernel) rfl ?_
      exact M.retz (nx := 24) (by decide +kernel) (by decide) ⟨by simp [hasF, *], rfl⟩
    · refine M.blk (is := [(.iload_n 1, 1, 0, 0), (.bipush 25, 0, 0, 25)]) (pc1 := 15) (lo1 := [(0, .ref 105), (1, .int x)]) (st1 := [.int 25, .int x]) (w1 := (WP c0 c1 c2 c3 c4 PA PS rest u)) (by decide +kernel) rfl ?_
      refine M.icmp_ge (off := 7) (tgt := 22) (nx := 18) (by decide +kernel) (fun z15 => ?_) (fun z15 => ?_)
      · refine M.blk (is := [(.iconst 0, 0, 0, 0)]) (pc1 := 23) (lo1 := [(0, .ref 105), (1, .int x)]) (st1 := [.int 0]) (w1 := (WP c0 c1 c2 c3 c4 PA PS rest u)) (by decide +kernel) rfl ?_
        exact M.retz (nx := 24) (by decide +kernel) (by decide) ⟨by simp [hasF, *], rfl⟩
      · refine M.blk (is := [(.iconst 1, 0, 0, 1), (.goto 4, 23, 0, 0)]) (pc1 := 23) (lo1 := [(0, .ref 105), (1, .int x)]) (st1 := [.int 1]) (w1 := (WP c0 c1 c2 c3 c4 PA PS rest u)) (by decide +kernel) rfl ?_
        exact M.retz (nx := 24) (by decide +kernel) (by decide) ⟨by simp [hasF, *], rfl⟩
theorem s_typeOf (x : Int32) : CC 1 mX1_typeOf 0 0 [.ref 105, .int x] (WP c0 c1 c2 c3 c4 PA PS rest u) (Rt (if hasF PS x = 0 then -1 else PA 0 x.toNatClampNeg) (WP c0 c1 c2 c3 c4 PA PS rest u)) := by
  refine CC.of okX1_typeOf.1 (Nat.le_of_ble_eq_true rfl) (fun g M => ?_)
  show g 0 0 0 [(0, .ref 105), (1, .int x)] [] (WP c0 c1 c2 c3 c4 PA PS rest u)
  refine M.blk (is := [(.aload_n 0, 0, 0, 0), (.iload_n 1, 1, 0, 0)]) (pc1 := 2) (lo1 := [(0, .ref 105), (1, .int x)]) (st1 := [.int x, .ref 105]) (w1 := (WP c0 c1 c2 c3 c4 PA PS rest u)) (by decide +kernel) rfl ?_
  refine M.callVi (as := [.int x]) (st := []) (nx := 5) okX1_has lkX1_59 (s_has x) (by decide +kernel) (by decide) rfl (Nat.le_of_ble_eq_true rfl) rfl (by decide) ?_
  refine M.if_eq (off := 12) (tgt := 17) (nx := 8) (by decide +kernel) (fun z5 => ?_) (fun z5 => ?_)
  · refine M.blk (is := [(.iconst (-1), 0, 0, (-1))]) (pc1 := 18) (lo1 := [(0, .ref 105), (1, .int x)]) (st1 := [.int (-1)]) (w1 := (WP c0 c1 c2 c3 c4 PA PS rest u)) (by decide +kernel) rfl ?_
    exact M.reti (nx := 19) (by decide +kernel) ⟨by simp [*], rfl⟩
  · refine M.blk (is := [(.aload_n 0, 0, 0, 0), (.getfield 9, 1, 0, 0), (.iload_n 1, 1, 0, 0)]) (pc1 := 13) (lo1 := [(0, .ref 105), (1, .int x)]) (st1 := [.int x, .ref 106]) (w1 := (WP c0 c1 c2 c3 c4 PA PS rest u)) (by decide +kernel) rfl ?_
    refine M.ald (n := 25) (f := PA 0) (j := x.toNatClampNeg) (nx := 14) (by decide +kernel) rfl (hasF_idx z5).1 (hasF_idx z5).2 (by decide) ?_
    refine M.blk (is := [(.goto 4, 18, 0, 0)]) (pc1 := 18) (lo1 := [(0, .ref 105), (1, .int x)]) (st1 := [.int ((PA 0) x.toNatClampNeg)]) (w1 := (WP c0 c1 c2 c3 c4 PA PS rest u)) (by decide +kernel) rfl ?_
    exact M.reti (nx := 19) (by decide +kernel) ⟨by simp [*], rfl⟩
theorem s_addressOf (x : Int32) : CC 1 mX1_addressOf 0 0 [.ref 105, .int x] (WP c0 c1 c2 c3 c4 PA PS rest u) (Rt (if hasF PS x = 0 then -1 else PA 6 x.toNatClampNeg) (WP c0 c1 c2 c3 c4 PA PS rest u)) := by
  refine CC.of okX1_addressOf.1 (Nat.le_of_ble_eq_true rfl) (fun g M => ?_)
  show g 0 0 0 [(0, .ref 105), (1, .int x)] [] (WP c0 c1 c2 c3 c4 PA PS rest u)
  refine M.blk (is := [(.aload_n 0, 0, 0, 0), (.iload_n 1, 1, 0, 0)]) (pc1 := 2) (lo1 := [(0, .ref 105), (1, .int x)]) (st1 := [.int x, .ref 105]) (w1 := (WP c0 c1 c2 c3 c4 PA PS rest u)) (by decide +kernel) rfl ?_
  refine M.callVi (as := [.int x]) (st := []) (nx := 5) okX1_has lkX1_59 (s_has x) (by decide +kernel) (by decide) rfl (Nat.le_of_ble_eq_true rfl) rfl (by decide) ?_
  refine M.if_eq (off := 12) (tgt := 17) (nx := 8) (by decide +kernel) (fun z5 => ?_) (fun z5 => ?_)
  · refine M.blk (is := [(.iconst (-1), 0, 0, (-1))]) (pc1 := 18) (lo1 := [(0, .ref 105), (1, .int x)]) (st1 := [.int (-1)]) (w1 := (WP c0 c1 c2 c3 c4 PA PS rest u)) (by decide +kernel) rfl ?_
    exact M.reti (nx := 19) (by decide +kernel) ⟨by simp [*], rfl⟩
  · refine M.blk (is := [(.aload_n 0, 0, 0, 0), (.getfield 30, 1, 6, 0), (.iload_n 1, 1, 0, 0)]) (pc1 := 13) (lo1 := [(0, .ref 105), (1, .int x)]) (st1 := [.int x, .ref 112]) (w1 := (WP c0 c1 c2 c3 c4 PA PS rest u)) (by decide +kernel) rfl ?_
    refine M.ald (n := 25) (f := PA 6) (j := x.toNatClampNeg) (nx := 14) (by decide +kernel) rfl (hasF_idx z5).1 (hasF_idx z5).2 (by decide) ?_
    refine M.blk (is := [(.goto 4, 18, 0, 0)]) (pc1 := 18) (lo1 := [(0, .ref 105), (1, .int x)]) (st1 := [.int ((PA 6) x.toNatClampNeg)]) (w1 := (WP c0 c1 c2 c3 c4 PA PS rest u)) (by decide +kernel) rfl ?_
    exact M.reti (nx := 19) (by decide +kernel) ⟨by simp [*], rfl⟩
theorem s_cellOf (x : Int32) : CC 1 mX1_cellOf 0 0 [.ref 105, .int x] (WP c0 c1 c2 c3 c4 PA PS rest u) (Rt (if hasF PS x = 0 then -1 else PA 5 x.toNatClampNeg) (WP c0 c1 c2 c3 c4 PA PS rest u)) := by
  refine CC.of okX1_cellOf.1 (Nat.le_of_ble_eq_true rfl) (fun g M => ?_)
  show g 0 0 0 [(0, .ref 105), (1, .int x)] [] (WP c0 c1 c2 c3 c4 PA PS rest u)
  refine M.blk (is := [(.aload_n 0, 0, 0, 0), (.iload_n 1, 1, 0, 0)]) (pc1 := 2) (lo1 := [(0, .ref 105), (1, .int x)]) (st1 := [.int x, .ref 105]) (w1 := (WP c0 c1 c2 c3 c4 PA PS rest u)) (by decide +kernel) rfl ?_
  refine M.callVi (as := [.int x]) (st := []) (nx := 5) okX1_has lkX1_59 (s_has x) (by decide +kernel) (by decide) rfl (Nat.le_of_ble_eq_true rfl) rfl (by decide) ?_
  refine M.if_eq (off := 12) (tgt := 17) (nx := 8) (by decide +kernel) (fun z5 => ?_) (fun z5 => ?_)
  · refine M.blk (is := [(.iconst (-1), 0, 0, (-1))]) (pc1 := 18) (lo1 := [(0, .ref 105), (1, .int x)]) (st1 := [.int (-1)]) (w1 := (WP c0 c1 c2 c3 c4 PA PS rest u)) (by decide +kernel) rfl ?_
    exact M.reti (nx := 19) (by decide +kernel) ⟨by simp [*], rfl⟩
  · refine M.blk (is := [(.aload_n 0, 0, 0, 0), (.getfield 27, 1, 5, 0), (.iload_n 1, 1, 0, 0)]) (pc1 := 13) (lo1 := [(0, .ref 105), (1, .int x)]) (st1 := [.int x, .ref 111]) (w1 := (WP c0 c1 c2 c3 c4 PA PS rest u)) (by decide +kernel) rfl ?_
    refine M.ald (n := 25) (f := PA 5) (j := x.toNatClampNeg) (nx := 14) (by decide +kernel) rfl (hasF_idx z5).1 (hasF_idx z5).2 (by decide) ?_
    refine M.blk (is := [(.goto 4, 18, 0, 0)]) (pc1 := 18) (lo1 := [(0, .ref 105), (1, .int x)]) (st1 := [.int ((PA 5) x.toNatClampNeg)]) (w1 := (WP c0 c1 c2 c3 c4 PA PS rest u)) (by decide +kernel) rfl ?_
    exact M.reti (nx := 19) (by decide +kernel) ⟨by simp [*], rfl⟩
theorem s_there (x : Int32) : CC 1 mX1_there 0 0 [.ref 105, .int x] (WP c0 c1 c2 c3 c4 PA PS rest u) (Rt (if hasF PS x = 0 then 0 else PA 4 x.toNatClampNeg) (WP c0 c1 c2 c3 c4 PA PS rest u)) := by
  refine CC.of okX1_there.1 (Nat.le_of_ble_eq_true rfl) (fun g M => ?_)
  show g 0 0 0 [(0, .ref 105), (1, .int x)] [] (WP c0 c1 c2 c3 c4 PA PS rest u)
  refine M.blk (is := [(.aload_n 0, 0, 0, 0), (.iload_n 1, 1, 0, 0)]) (pc1 := 2) (lo1 := [(0, .ref 105), (1, .int x)]) (st1 := [.int x, .ref 105]) (w1 := (WP c0 c1 c2 c3 c4 PA PS rest u)) (by decide +kernel) rfl ?_
  refine M.callVi (as := [.int x]) (st := []) (nx := 5) okX1_has lkX1_59 (s_has x) (by decide +kernel) (by decide) rfl (Nat.le_of_ble_eq_true rfl) rfl (by decide) ?_
  refine M.if_eq (off := 12) (tgt := 17) (nx := 8) (by decide +kernel) (fun z5 => ?_) (fun z5 => ?_)
  · refine M.blk (is := [(.iconst 0, 0, 0, 0)]) (pc1 := 18) (lo1 := [(0, .ref 105), (1, .int x)]) (st1 := [.int 0]) (w1 := (WP c0 c1 c2 c3 c4 PA PS rest u)) (by decide +kernel) rfl ?_
    exact M.reti (nx := 19) (by decide +kernel) ⟨by simp [*], rfl⟩
  · refine M.blk (is := [(.aload_n 0, 0, 0, 0), (.getfield 24, 1, 4, 0), (.iload_n 1, 1, 0, 0)]) (pc1 := 13) (lo1 := [(0, .ref 105), (1, .int x)]) (st1 := [.int x, .ref 110]) (w1 := (WP c0 c1 c2 c3 c4 PA PS rest u)) (by decide +kernel) rfl ?_
    refine M.ald (n := 25) (f := PA 4) (j := x.toNatClampNeg) (nx := 14) (by decide +kernel) rfl (hasF_idx z5).1 (hasF_idx z5).2 (by decide) ?_
    refine M.blk (is := [(.goto 4, 18, 0, 0)]) (pc1 := 18) (lo1 := [(0, .ref 105), (1, .int x)]) (st1 := [.int ((PA 4) x.toNatClampNeg)]) (w1 := (WP c0 c1 c2 c3 c4 PA PS rest u)) (by decide +kernel) rfl ?_
    exact M.reti (nx := 19) (by decide +kernel) ⟨by simp [*], rfl⟩
theorem s_turnedAt (x : Int32) : CC 1 mX1_turnedAt 0 0 [.ref 105, .int x] (WP c0 c1 c2 c3 c4 PA PS rest u) (Rt (if hasF PS x = 0 then 0 else (PS 12 >>> (PA 2 x.toNatClampNeg &&& 31)) &&& 1) (WP c0 c1 c2 c3 c4 PA PS rest u)) := by
  refine CC.of okX1_turnedAt.1 (Nat.le_of_ble_eq_true rfl) (fun g M => ?_)
  show g 0 0 0 [(0, .ref 105), (1, .int x)] [] (WP c0 c1 c2 c3 c4 PA PS rest u)
  refine M.blk (is := [(.aload_n 0, 0, 0, 0), (.iload_n 1, 1, 0, 0)]) (pc1 := 2) (lo1 := [(0, .ref 105), (1, .int x)]) (st1 := [.int x, .ref 105]) (w1 := (WP c0 c1 c2 c3 c4 PA PS rest u)) (by decide +kernel) rfl ?_
  refine M.callVi (as := [.int x]) (st := []) (nx := 5) okX1_has lkX1_59 (s_has x) (by decide +kernel) (by decide) rfl (Nat.le_of_ble_eq_true rfl) rfl (by decide) ?_
  refine M.if_eq (off := 19) (tgt := 24) (nx := 8) (by decide +kernel) (fun z5 => ?_) (fun z5 => ?_)
  · refine M.blk (is := [(.iconst 0, 0, 0, 0)]) (pc1 := 25) (lo1 := [(0, .ref 105), (1, .int x)]) (st1 := [.int 0]) (w1 := (WP c0 c1 c2 c3 c4 PA PS rest u)) (by decide +kernel) rfl ?_
    exact M.reti (nx := 26) (by decide +kernel) ⟨by simp [*], rfl⟩
  · refine M.blk (is := [(.aload_n 0, 0, 0, 0), (.getfield 76, 1, 12, 0), (.aload_n 0, 0, 0, 0), (.getfield 18, 1, 2, 0), (.iload_n 1, 1, 0, 0)]) (pc1 := 17) (lo1 := [(0, .ref 105), (1, .int x)]) (st1 := [.int x, .ref 108, .int (PS 12)]) (w1 := (WP c0 c1 c2 c3 c4 PA PS rest u)) (by decide +kernel) rfl ?_
    refine M.ald (n := 25) (f := PA 2) (j := x.toNatClampNeg) (nx := 18) (by decide +kernel) rfl (hasF_idx z5).1 (hasF_idx z5).2 (by decide) ?_
    refine M.blk (is := [(.ishr, 0, 0, 0), (.iconst 1, 0, 0, 1), (.iand, 0, 0, 0), (.goto 4, 25, 0, 0)]) (pc1 := 25) (lo1 := [(0, .ref 105), (1, .int x)]) (st1 := [.int (((PS 12) >>> (((PA 2) x.toNatClampNeg) &&& 31)) &&& 1)]) (w1 := (WP c0 c1 c2 c3 c4 PA PS rest u)) (by decide +kernel) rfl ?_
    exact M.reti (nx := 26) (by decide +kernel) ⟨by simp [*], rfl⟩
theorem s_beside (x k : Int32) : CC 1 mX1_beside 0 0 [.ref 105, .int x, .int k] (WP c0 c1 c2 c3 c4 PA PS rest u) (Rt (if hasF PS x = 0 then -1 else if k < 0 then -1 else if 4 ≤ k then -1 else PA 3 (4 * x.toNatClampNeg + k.toNatClampNeg)) (WP c0 c1 c2 c3 c4 PA PS rest u)) := by
  refine CC.of okX1_beside.1 (Nat.le_of_ble_eq_true rfl) (fun g M => ?_)
  show g 0 0 0 [(0, .ref 105), (1, .int x), (2, .int k)] [] (WP c0 c1 c2 c3 c4 PA PS rest u)
  refine M.blk (is := [(.aload_n 0, 0, 0, 0), (.iload_n 1, 1, 0, 0)]) (pc1 := 2) (lo1 := [(0, .ref 105), (1, .int x), (2, .int k)]) (st1 := [.int x, .ref 105]) (w1 := (WP c0 c1 c2 c3 c4 PA PS rest u)) (by decide +kernel) rfl ?_
  refine M.callVi (as := [.int x]) (st := []) (nx := 5) okX1_has lkX1_59 (s_has x) (by decide +kernel) (by decide) rfl (Nat.le_of_ble_eq_true rfl) rfl (by decide) ?_
  refine M.if_eq (off := 25) (tgt := 30) (nx := 8) (by decide +kernel) (fun z5 => ?_) (fun z5 => ?_)
  · refine M.blk (is := [(.iconst (-1), 0, 0, (-1))]) (pc1 := 31) (lo1 := [(0, .ref 105), (1, .int x), (2, .int k)]) (st1 := [.int (-1)]) (w1 := (WP c0 c1 c2 c3 c4 PA PS rest u)) (by decide +kernel) rfl ?_
    exact M.reti (nx := 32) (by decide +kernel) ⟨by simp [*], rfl⟩
  · refine M.blk (is := [(.iload_n 2, 2, 0, 0)]) (pc1 := 9) (lo1 := [(0, .ref 105), (1, .int x), (2, .int k)]) (st1 := [.int k]) (w1 := (WP c0 c1 c2 c3 c4 PA PS rest u)) (by decide +kernel) rfl ?_
    refine M.if_lt (off := 21) (tgt := 30) (nx := 12) (by decide +kernel) (fun z9 => ?_) (fun z9 => ?_)
    · refine M.blk (is := [(.iconst (-1), 0, 0, (-1))]) (pc1 := 31) (lo1 := [(0, .ref 105), (1, .int x), (2, .int k)]) (st1 := [.int (-1)]) (w1 := (WP c0 c1 c2 c3 c4 PA PS rest u)) (by decide +kernel) rfl ?_
      exact M.reti (nx := 32) (by decide +kernel) ⟨by simp [*], rfl⟩
    · refine M.blk (is := [(.iload_n 2, 2, 0, 0), (.iconst 4, 0, 0, 4)]) (pc1 := 14) (lo1 := [(0, .ref 105), (1, .int x), (2, .int k)]) (st1 := [.int 4, .int k]) (w1 := (WP c0 c1 c2 c3 c4 PA PS rest u)) (by decide +kernel) rfl ?_
      refine M.icmp_ge (off := 16) (tgt := 30) (nx := 17) (by decide +kernel) (fun z14 => ?_) (fun z14 => ?_)
      · refine M.blk (is := [(.iconst (-1), 0, 0, (-1))]) (pc1 := 31) (lo1 := [(0, .ref 105), (1, .int x), (2, .int k)]) (st1 := [.int (-1)]) (w1 := (WP c0 c1 c2 c3 c4 PA PS rest u)) (by decide +kernel) rfl ?_
        exact M.reti (nx := 32) (by decide +kernel) ⟨by simp [*], rfl⟩
      · refine M.blk (is := [(.aload_n 0, 0, 0, 0), (.getfield 21, 1, 3, 0), (.iconst 4, 0, 0, 4), (.iload_n 1, 1, 0, 0), (.imul, 0, 0, 0), (.iload_n 2, 2, 0, 0), (.iadd, 0, 0, 0)]) (pc1 := 26) (lo1 := [(0, .ref 105), (1, .int x), (2, .int k)]) (st1 := [.int ((4 * x) + k), .ref 109]) (w1 := (WP c0 c1 c2 c3 c4 PA PS rest u)) (by decide +kernel) rfl ?_
        refine M.ald (n := 100) (f := PA 3) (j := 4 * x.toNatClampNeg + k.toNatClampNeg) (nx := 27) (by decide +kernel) rfl (by conv => lhs; rw [(hasF_idx z5).1, (idx_of (n := 4) z9 z14 (by decide)).1, show (4 : Int32) = nI 4 from rfl, pk_mul, nI_add]) (by have h1 := (hasF_idx z5).2; have h2 := (idx_of (n := 4) z9 z14 (by decide)).2; omega) (by decide) ?_
        refine M.blk (is := [(.goto 4, 31, 0, 0)]) (pc1 := 31) (lo1 := [(0, .ref 105), (1, .int x), (2, .int k)]) (st1 := [.int ((PA 3) (4 * x.toNatClampNeg + k.toNatClampNeg))]) (w1 := (WP c0 c1 c2 c3 c4 PA PS rest u)) (by decide +kernel) rfl ?_
        exact M.reti (nx := 32) (by decide +kernel) ⟨by simp [*], rfl⟩
theorem s_cellsOfType (t : Int32) : CC 0 mX1_cellsOfType 0 0 [.ref 105, .int t] (WP c0 c1 c2 c3 c4 PA PS rest u) (Rt (if t < 0 then 0 else if 5 ≤ t then 0 else PA 1 t.toNatClampNeg) (WP c0 c1 c2 c3 c4 PA PS rest u)) := by
  refine CC.of okX1_cellsOfType.1 (Nat.le_of_ble_eq_true rfl) (fun g M => ?_)
  show g 0 0 0 [(0, .ref 105), (1, .int t)] [] (WP c0 c1 c2 c3 c4 PA PS rest u)
  refine M.blk (is := [(.iload_n 1, 1, 0, 0)]) (pc1 := 1) (lo1 := [(0, .ref 105), (1, .int t)]) (st1 := [.int t]) (w1 := (WP c0 c1 c2 c3 c4 PA PS rest u)) (by decide +kernel) rfl ?_
  refine M.if_lt (off := 17) (tgt := 18) (nx := 4) (by decide +kernel) (fun z1 => ?_) (fun z1 => ?_)
  · refine M.blk (is := [(.iconst 0, 0, 0, 0)]) (pc1 := 19) (lo1 := [(0, .ref 105), (1, .int t)]) (st1 := [.int 0]) (w1 := (WP c0 c1 c2 c3 c4 PA PS rest u)) (by decide +kernel) rfl ?_
    exact M.reti (nx := 20) (by decide +kernel) ⟨by simp [*], rfl⟩
  · refine M.blk (is := [(.iload_n 1, 1, 0, 0), (.iconst 5, 0, 0, 5)]) (pc1 := 6) (lo1 := [(0, .ref 105), (1, .int t)]) (st1 := [.int 5, .int t]) (w1 := (WP c0 c1 c2 c3 c4 PA PS rest u)) (by decide +kernel) rfl ?_
    refine M.icmp_ge (off := 12) (tgt := 18) (nx := 9) (by decide +kernel) (fun z6 => ?_) (fun z6 => ?_)
    · refine M.blk (is := [(.iconst 0, 0, 0, 0)]) (pc1 := 19) (lo1 := [(0, .ref 105), (1, .int t)]) (st1 := [.int 0]) (w1 := (WP c0 c1 c2 c3 c4 PA PS rest u)) (by decide +kernel) rfl ?_
      exact M.reti (nx := 20) (by decide +kernel) ⟨by simp [*], rfl⟩
    · refine M.blk (is := [(.aload_n 0, 0, 0, 0), (.getfield 15, 1, 1, 0), (.iload_n 1, 1, 0, 0)]) (pc1 := 14) (lo1 := [(0, .ref 105), (1, .int t)]) (st1 := [.int t, .ref 107]) (w1 := (WP c0 c1 c2 c3 c4 PA PS rest u)) (by decide +kernel) rfl ?_
      refine M.ald (n := 5) (f := PA 1) (j := t.toNatClampNeg) (nx := 15) (by decide +kernel) rfl (idx_of (n := 5) z1 z6 (by decide)).1 (idx_of (n := 5) z1 z6 (by decide)).2 (by decide) ?_
      refine M.blk (is := [(.goto 4, 19, 0, 0)]) (pc1 := 19) (lo1 := [(0, .ref 105), (1, .int t)]) (st1 := [.int ((PA 1) t.toNatClampNeg)]) (w1 := (WP c0 c1 c2 c3 c4 PA PS rest u)) (by decide +kernel) rfl ?_
      exact M.reti (nx := 20) (by decide +kernel) ⟨by simp [*], rfl⟩
def sideF (x : Int32) : Int32 := if x < 3 then 0 else if 5 < x then 0 else 1
theorem s_isSide (w0 : Wd) (x : Int32) : CC 0 mX1_isSide 0 0 [.int x] w0 (Rt (sideF x) w0) := by
  refine CC.of okX1_isSide.1 (Nat.le_of_ble_eq_true rfl) (fun g M => ?_)
  show g 0 0 0 [(0, .int x)] [] w0
  refine M.blk (is := [(.iload_n 0, 0, 0, 0), (.iconst 3, 0, 0, 3)]) (pc1 := 2) (lo1 := [(0, .int x)]) (st1 := [.int 3, .int x]) (w1 := w0) (by decide +kernel) rfl ?_
  refine M.icmp_lt (off := 12) (tgt := 14) (nx := 5) (by decide +kernel) (fun z2 => ?_) (fun z2 => ?_)
  · refine M.blk (is := [(.iconst 0, 0, 0, 0)]) (pc1 := 15) (lo1 := [(0, .int x)]) (st1 := [.int 0]) (w1 := w0) (by decide +kernel) rfl ?_
    exact M.retz (nx := 16) (by decide +kernel) (by decide) ⟨by simp [sideF, *], rfl⟩
  · refine M.blk (is := [(.iload_n 0, 0, 0, 0), (.iconst 5, 0, 0, 5)]) (pc1 := 7) (lo1 := [(0, .int x)]) (st1 := [.int 5, .int x]) (w1 := w0) (by decide +kernel) rfl ?_
    refine M.icmp_gt (off := 7) (tgt := 14) (nx := 10) (by decide +kernel) (fun z7 => ?_) (fun z7 => ?_)
    · refine M.blk (is := [(.iconst 0, 0, 0, 0)]) (pc1 := 15) (lo1 := [(0, .int x)]) (st1 := [.int 0]) (w1 := w0) (by decide +kernel) rfl ?_
      exact M.retz (nx := 16) (by decide +kernel) (by decide) ⟨by simp [sideF, *], rfl⟩
    · refine M.blk (is := [(.iconst 1, 0, 0, 1), (.goto 4, 15, 0, 0)]) (pc1 := 15) (lo1 := [(0, .int x)]) (st1 := [.int 1]) (w1 := w0) (by decide +kernel) rfl ?_
      exact M.retz (nx := 16) (by decide +kernel) (by decide) ⟨by simp [sideF, *], rfl⟩
theorem s_setAddress {a k n : Nat} (hn : PS 9 = nI n) (h25 : n ≤ 25) (ha : a < n) (hk : k < n) : CC 1 mX1_setAddress 0 0 [.ref 105, .int (nI a), .int (nI k)] (WP c0 c1 c2 c3 c4 PA PS rest u) (Rv (WP c0 c1 c2 c3 c4 (va_up (va_up PA 5 (upd (PA 5) a (nI k))) 6 (upd (PA 6) k (nI a))) PS rest u)) := by
  refine CC.of okX1_setAddress.1 (Nat.le_of_ble_eq_true rfl) (fun g M => ?_)
  show g 0 0 0 [(0, .ref 105), (1, .int (nI a)), (2, .int (nI k))] [] (WP c0 c1 c2 c3 c4 PA PS rest u)
  refine M.blk (is := [(.aload_n 0, 0, 0, 0), (.iload_n 1, 1, 0, 0)]) (pc1 := 2) (lo1 := [(0, .ref 105), (1, .int (nI a)), (2, .int (nI k))]) (st1 := [.int (nI a), .ref 105]) (w1 := (WP c0 c1 c2 c3 c4 PA PS rest u)) (by decide +kernel) rfl ?_
  refine M.callVi (as := [.int (nI a)]) (st := []) (nx := 5) okX1_has lkX1_59 (s_has (nI a)) (by decide +kernel) (by decide) rfl (Nat.le_of_ble_eq_true rfl) rfl (by decide) ?_
  refine M.if_eq (off := 25) (tgt := 30) (nx := 8) (by decide +kernel) (fun z5 => by exfalso; rw [hasF_nI hn h25 ha] at z5; exact absurd z5 (by decide)) (fun z5 => ?_)
  refine M.blk (is := [(.aload_n 0, 0, 0, 0), (.iload_n 2, 2, 0, 0)]) (pc1 := 10) (lo1 := [(0, .ref 105), (1, .int (nI a)), (2, .int (nI k))]) (st1 := [.int (nI k), .ref 105]) (w1 := (WP c0 c1 c2 c3 c4 PA PS rest u)) (by decide +kernel) rfl ?_
  refine M.callVi (as := [.int (nI k)]) (st := []) (nx := 13) okX1_has lkX1_59 (s_has (nI k)) (by decide +kernel) (by decide) rfl (Nat.le_of_ble_eq_true rfl) rfl (by decide) ?_
  refine M.if_eq (off := 17) (tgt := 30) (nx := 16) (by decide +kernel) (fun z13 => by exfalso; rw [hasF_nI hn h25 hk] at z13; exact absurd z13 (by decide)) (fun z13 => ?_)
  refine M.blk (is := [(.aload_n 0, 0, 0, 0), (.getfield 27, 1, 5, 0), (.iload_n 1, 1, 0, 0), (.iload_n 2, 2, 0, 0)]) (pc1 := 22) (lo1 := [(0, .ref 105), (1, .int (nI a)), (2, .int (nI k))]) (st1 := [.int (nI k), .int (nI a), .ref 111]) (w1 := (WP c0 c1 c2 c3 c4 PA PS rest u)) (by decide +kernel) rfl ?_
  refine M.ast (n := 25) (f := PA 5) (j := a) (nx := 23) (by decide +kernel) rfl rfl (by omega) (by decide) ?_
  show g 0 0 23 [(0, .ref 105), (1, .int (nI a)), (2, .int (nI k))] [] (WP c0 c1 c2 c3 c4 (va_up PA 5 (upd (PA 5) a (nI k))) PS rest u)
  refine M.blk (is := [(.aload_n 0, 0, 0, 0), (.getfield 30, 1, 6, 0), (.iload_n 2, 2, 0, 0), (.iload_n 1, 1, 0, 0)]) (pc1 := 29) (lo1 := [(0, .ref 105), (1, .int (nI a)), (2, .int (nI k))]) (st1 := [.int (nI a), .int (nI k), .ref 112]) (w1 := (WP c0 c1 c2 c3 c4 (va_up PA 5 (upd (PA 5) a (nI k))) PS rest u)) (by decide +kernel) rfl ?_
  refine M.ast (n := 25) (f := PA 6) (j := k) (nx := 30) (by decide +kernel) rfl rfl (by omega) (by decide) ?_
  show g 0 0 30 [(0, .ref 105), (1, .int (nI a)), (2, .int (nI k))] [] (WP c0 c1 c2 c3 c4 (va_up (va_up PA 5 (upd (PA 5) a (nI k))) 6 (upd (PA 6) k (nI a))) PS rest u)
  exact M.retv (nx := 31) (by decide +kernel) ⟨rfl, rfl⟩
theorem s_layBeside {x k : Int32} {m dd n : Nat} (hn : PS 9 = nI n) (h25 : n ≤ 25) (hx : x = nI m) (hk : k = nI dd) (hm : m < n) (hd : dd < 4) (b y : Int32) : CC 1 mX1_layBeside 0 0 [.ref 105, .int x, .int k, .int b, .int y] (WP c0 c1 c2 c3 c4 PA PS rest u) (Rv (WP c0 c1 c2 c3 c4 (va_up (va_up PA 3 (upd (PA 3) (4 * m + dd) (if b = 0 then -1 else y))) 4 (upd (PA 4) m (PA 4 m ||| if b = 0 then 0 else nI (2 ^ dd)))) PS rest u)) := by
  refine CC.of okX1_layBeside.1 (Nat.le_of_ble_eq_true rfl) (fun g M => ?_)
  show g 0 0 0 [(0, .ref 105), (1, .int x), (2, .int k), (3, .int b), (4, .int y)] [] (WP c0 c1 c2 c3 c4 PA PS rest u)
  refine M.blk (is := [(.aload_n 0, 0, 0, 0), (.iload_n 1, 1, 0, 0)]) (pc1 := 2) (lo1 := [(0, .ref 105), (1, .int x), (2, .int k), (3, .int b), (4, .int y)]) (st1 := [.int x, .ref 105]) (w1 := (WP c0 c1 c2 c3 c4 PA PS rest u)) (by decide +kernel) rfl ?_
  refine M.callVi (as := [.int x]) (st := []) (nx := 5) okX1_has lkX1_59 (s_has x) (by decide +kernel) (by decide) rfl (Nat.le_of_ble_eq_true rfl) rfl (by decide) ?_
  refine M.if_eq (off := 52) (tgt := 57) (nx := 8) (by decide +kernel) (fun z5 => by exfalso; rw [hx, hasF_nI hn h25 hm] at z5; exact absurd z5 (by decide)) (fun z5 => ?_)
  refine M.blk (is := [(.iload_n 2, 2, 0, 0)]) (pc1 := 9) (lo1 := [(0, .ref 105), (1, .int x), (2, .int k), (3, .int b), (4, .int y)]) (st1 := [.int k]) (w1 := (WP c0 c1 c2 c3 c4 PA PS rest u)) (by decide +kernel) rfl ?_
  refine M.if_lt (off := 48) (tgt := 57) (nx := 12) (by decide +kernel) (fun z9 => by exfalso; rw [hk] at z9; exact nI_pos (by omega) z9) (fun z9 => ?_)
  refine M.blk (is := [(.iload_n 2, 2, 0, 0), (.iconst 4, 0, 0, 4)]) (pc1 := 14) (lo1 := [(0, .ref 105), (1, .int x), (2, .int k), (3, .int b), (4, .int y)]) (st1 := [.int 4, .int k]) (w1 := (WP c0 c1 c2 c3 c4 PA PS rest u)) (by decide +kernel) rfl ?_
  refine M.icmp_ge (off := 43) (tgt := 57) (nx := 17) (by decide +kernel) (fun z14 => by exfalso; rw [hk] at z14; exact nI_ge (b := 4) hd (by decide) z14) (fun z14 => ?_)
  refine M.blk (is := [(.aload_n 0, 0, 0, 0), (.getfield 21, 1, 3, 0), (.iconst 4, 0, 0, 4), (.iload_n 1, 1, 0, 0), (.imul, 0, 0, 0), (.iload_n 2, 2, 0, 0), (.iadd, 0, 0, 0), (.iload_n 3, 3, 0, 0)]) (pc1 := 27) (lo1 := [(0, .ref 105), (1, .int x), (2, .int k), (3, .int b), (4, .int y)]) (st1 := [.int b, .int ((4 * x) + k), .ref 109]) (w1 := (WP c0 c1 c2 c3 c4 PA PS rest u)) (by decide +kernel) rfl ?_
  have j27 : ∀ b27 : Int32, b27 = (if b = 0 then ((-1) : Int32) else y) → g 0 0 36 [(0, .ref 105), (1, .int x), (2, .int k), (3, .int b), (4, .int y)] [.int b27, .int ((4 * x) + k), .ref 109] (WP c0 c1 c2 c3 c4 PA PS rest u) := by
    intro b27 hb27
    refine M.ast (n := 100) (f := PA 3) (j := 4 * m + dd) (nx := 37) (by decide +kernel) rfl (by rw [hx, hk, show (4 : Int32) = nI 4 from rfl, pk_mul, nI_add]) (by omega) (by decide) ?_
    show g 0 0 37 [(0, .ref 105), (1, .int x), (2, .int k), (3, .int b), (4, .int y)] [] (WP c0 c1 c2 c3 c4 (va_up PA 3 (upd (PA 3) (4 * m + dd) b27)) PS rest u)
    refine M.blk (is := [(.aload_n 0, 0, 0, 0), (.getfield 24, 1, 4, 0), (.iload_n 1, 1, 0, 0), (.dup2, 0, 0, 0)]) (pc1 := 43) (lo1 := [(0, .ref 105), (1, .int x), (2, .int k), (3, .int b), (4, .int y)]) (st1 := [.int x, .ref 110, .int x, .ref 110]) (w1 := (WP c0 c1 c2 c3 c4 (va_up PA 3 (upd (PA 3) (4 * m + dd) b27)) PS rest u)) (by decide +kernel) rfl ?_
    refine M.ald (n := 25) (f := PA 4) (j := m) (nx := 44) (by decide +kernel) rfl hx (by omega) (by decide) ?_
    refine M.blk (is := [(.iload_n 3, 3, 0, 0)]) (pc1 := 45) (lo1 := [(0, .ref 105), (1, .int x), (2, .int k), (3, .int b), (4, .int y)]) (st1 := [.int b, .int ((PA 4) m), .int x, .ref 110]) (w1 := (WP c0 c1 c2 c3 c4 (va_up PA 3 (upd (PA 3) (4 * m + dd) b27)) PS rest u)) (by decide +kernel) rfl ?_
    have j45 : ∀ b45 : Int32, b45 = (if b = 0 then (0 : Int32) else (1 : Int32) <<< (k &&& 31)) → g 0 0 55 [(0, .ref 105), (1, .int x), (2, .int k), (3, .int b), (4, .int y)] [.int b45, .int ((PA 4) m), .int x, .ref 110] (WP c0 c1 c2 c3 c4 (va_up PA 3 (upd (PA 3) (4 * m + dd) b27)) PS rest u) := by
      intro b45 hb45
      refine M.blk (is := [(.ior, 0, 0, 0)]) (pc1 := 56) (lo1 := [(0, .ref 105), (1, .int x), (2, .int k), (3, .int b), (4, .int y)]) (st1 := [.int (((PA 4) m) ||| b45), .int x, .ref 110]) (w1 := (WP c0 c1 c2 c3 c4 (va_up PA 3 (upd (PA 3) (4 * m + dd) b27)) PS rest u)) (by decide +kernel) rfl ?_
      refine M.ast (n := 25) (f := PA 4) (j := m) (nx := 57) (by decide +kernel) rfl hx (by omega) (by decide) ?_
      show g 0 0 57 [(0, .ref 105), (1, .int x), (2, .int k), (3, .int b), (4, .int y)] [] (WP c0 c1 c2 c3 c4 (va_up (va_up PA 3 (upd (PA 3) (4 * m + dd) b27)) 4 (upd (PA 4) m (((PA 4) m) ||| b45))) PS rest u)
      exact M.retv (nx := 58) (by decide +kernel) ⟨rfl, by rw [hb27, hb45, hk, shl1 (by omega)]⟩
    refine M.if_eq (off := 9) (tgt := 54) (nx := 48) (by decide +kernel) (fun z45 => ?_) (fun z45 => ?_)
    · refine M.blk (is := [(.iconst 0, 0, 0, 0)]) (pc1 := 55) (lo1 := [(0, .ref 105), (1, .int x), (2, .int k), (3, .int b), (4, .int y)]) (st1 := [.int 0, .int ((PA 4) m), .int x, .ref 110]) (w1 := (WP c0 c1 c2 c3 c4 (va_up PA 3 (upd (PA 3) (4 * m + dd) b27)) PS rest u)) (by decide +kernel) rfl ?_
      exact j45 _ (if_pos z45).symm
    · refine M.blk (is := [(.iconst 1, 0, 0, 1), (.iload_n 2, 2, 0, 0), (.ishl, 0, 0, 0), (.goto 4, 55, 0, 0)]) (pc1 := 55) (lo1 := [(0, .ref 105), (1, .int x), (2, .int k), (3, .int b), (4, .int y)]) (st1 := [.int ((1 : Int32) <<< (k &&& 31)), .int ((PA 4) m), .int x, .ref 110]) (w1 := (WP c0 c1 c2 c3 c4 (va_up PA 3 (upd (PA 3) (4 * m + dd) b27)) PS rest u)) (by decide +kernel) rfl ?_
      exact j45 _ (if_neg z45).symm
  refine M.if_eq (off := 8) (tgt := 35) (nx := 30) (by decide +kernel) (fun z27 => ?_) (fun z27 => ?_)
  · refine M.blk (is := [(.iconst (-1), 0, 0, (-1))]) (pc1 := 36) (lo1 := [(0, .ref 105), (1, .int x), (2, .int k), (3, .int b), (4, .int y)]) (st1 := [.int (-1), .int ((4 * x) + k), .ref 109]) (w1 := (WP c0 c1 c2 c3 c4 PA PS rest u)) (by decide +kernel) rfl ?_
    exact j27 _ (if_pos z27).symm
  · refine M.blk (is := [(.iload 4, 4, 0, 0), (.goto 4, 36, 0, 0)]) (pc1 := 36) (lo1 := [(0, .ref 105), (1, .int x), (2, .int k), (3, .int b), (4, .int y)]) (st1 := [.int y, .int ((4 * x) + k), .ref 109]) (w1 := (WP c0 c1 c2 c3 c4 PA PS rest u)) (by decide +kernel) rfl ?_
    exact j27 _ (if_neg z27).symm
end PLANE
