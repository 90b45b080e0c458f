section MFIVE
variable {MA : Nat → Nat → Int32} {MS : Nat → Int32} {Mh : Int64} {v : List Cl}
theorem keep_ms {r c f h t : Nat} {MT : Nat → Int32} (hu : ∀ i, ¬ (i = 9 ∨ i = 10 ∨ (17 ≤ i ∧ i ≤ 21)) → MT i = MS i) (hms : MSok r c f h t MS) : MSok r c f h t MT := by
  unfold MSok
  rw [hu 4 (by omega), hu 5 (by omega), hu 6 (by omega), hu 7 (by omega), hu 8 (by omega)]
  exact hms
theorem keep_fs {k κ p : Nat} {MT : Nat → Int32} (hu : ∀ i, ¬ (i = 9 ∨ i = 10 ∨ (17 ≤ i ∧ i ≤ 21)) → MT i = MS i) (hfs : FS k κ p MS) : FS k κ p MT := by
  unfold FS
  rw [hu 11 (by omega), hu 12 (by omega), hu 13 (by omega), hu 14 (by omega), hu 15 (by omega), hu 16 (by omega)]
  exact hfs
def LN (r c : Nat) (C MS MT : Nat → Int32) (j : Nat) : Prop := (∀ i, ¬ (i = 9 ∨ i = 10 ∨ (17 ≤ i ∧ i ≤ 21)) → MT i = MS i) ∧ MT 9 = MT 10 ∧ MT 10 = lbN r c C j ∧ (∀ i, r * c ≤ i → bt (MT 10) i = false) ∧ (∀ i, i < r * c → patN r c (MT 10) i = (smS 3 0 (tauG r c i) C j).1 ∧ bN (MT 10) i = (smS 3 0 (tauG r c i) C j).2.1) ∧ MT 20 = 0 ∧ MT 17 = -1 ∧ MT 21 = 0
theorem ln_0 {r c : Nat} {C MT : Nat → Int32} (hu : ∀ i, ¬ (i = 9 ∨ i = 10 ∨ (17 ≤ i ∧ i ≤ 21)) → MT i = MS i) (h9 : MT 9 = 0) (h10 : MT 10 = 0) (h17 : MT 17 = -1) (h20 : MT 20 = 0) (h21 : MT 21 = 0) : LN r c C MS MT 0 := by
  refine ⟨hu, h9.trans h10.symm, h10, fun i _ => ?_, fun i _ => ?_, h20, h17, h21⟩
  · rw [h10, b_0]
  · rw [h10, pat_0, bN_0]
    exact ⟨rfl, rfl⟩
theorem pl_0 {wh td B : Int32} : plI wh 0 td B = shI wh td B := by
  refine b_ext (fun i hi => ?_)
  rw [pl_bit hi, sh_bit hi, b_0]
  cases bt wh i <;> rfl
theorem sn_step {r c f h t : Nat} (hg : GeoOk r c f h t) {s S : Int32} (hs : sgnB s = true) (hr : ¬ s = 114) (hS : ∀ i, r * c ≤ i → bt S i = false) {k : Nat} (hk : k < r * c) {z : Nat × Nat × Int32} (h1 : patN r c S k = z.1) (h2 : bN S k = z.2.1) : patN r c (shI (whI r c s) (tdI (r * c) s S) S) k = (wSt 3 0 (tauG r c k) s z).1 ∧ bN (shI (whI r c s) (tdI (r * c) s S) S) k = (wSt 3 0 (tauG r c k) s z).2.1 := by
  have h25 : r * c ≤ 25 := Nat.mul_le_mul hg.1.2 hg.2.1.2
  obtain ⟨q1, _, q3, q4, _⟩ := rb_step hg hk (κ := 0) (p := 0) (by decide) (by decide) hs hr (B := S) (S := S) (z := (z.1, z.2.1, nI (bN S k))) ⟨h1, rfl, fun _ _ _ => rfl, h2.symm, hS⟩
  obtain ⟨e1, e2⟩ := wSt_ind 0 0 3 0 (tauG r c k) s (z := (z.1, z.2.1, nI (bN S k))) (z' := z) rfl rfl
  rw [e1] at q1
  rw [e2] at q4
  refine ⟨?_, q4.symm⟩
  rw [← q1]
  refine pat_congr (fun d m hd hm => ?_)
  have := nb_lt hk hm
  exact bN_of (q3 m (by omega) (nb_self hg hk hd hm)).symm
theorem ln_write {r c f h t : Nat} (hg : GeoOk r c f h t) {C MT MU : Nat → Int32} {j : Nat} (hs : sgnB (C j) = true) (hr : ¬ C j = 114) (hL : LN r c C MS MT j) (hu : ∀ i, ¬ (i = 9 ∨ i = 10) → MU i = MT i) (h9 : MU 9 = plI (whI r c (C j)) 0 (tdI (r * c) (C j) (MT 10)) (MT 9)) (h10 : MU 10 = shI (whI r c (C j)) (tdI (r * c) (C j) (MT 10)) (MT 10)) : LN r c C MS MU (j + 1) := by
  have h25 : r * c ≤ 25 := Nat.mul_le_mul hg.1.2 hg.2.1.2
  obtain ⟨l1, l2, l3, l4, l5, l6, l7, l8⟩ := hL
  refine ⟨fun i hi => (hu i (by omega)).trans (l1 i hi), ?_, ?_, fun i hi => ?_, fun i hi => ?_, by rw [hu 20 (by omega)]; exact l6, by rw [hu 17 (by omega)]; exact l7, by rw [hu 21 (by omega)]; exact l8⟩
  · rw [h9, h10, pl_0, l2]
  · rw [h10, sh_lb hg hs hr l4, lbN_succ, l3]
  · rw [h10]
    by_cases hi32 : i < 32
    · rw [sh_bit hi32, wh_bit hg hs hr hi32, decide_eq_false (by omega), Bool.false_and, if_neg (by decide)]
      exact l4 i hi
    · exact b_big (by omega)
  · have e := (sm_w (κ := 3) (p := 0) (τ := tauG r c i) (C := C) hr).1
    have q := sn_step hg hs hr l4 hi (z := smZ 3 0 (tauG r c i) C j) (l5 i hi).1 (l5 i hi).2
    rw [← e, ← h10] at q
    exact q
theorem ln_look {r c f h t : Nat} (hg : GeoOk r c f h t) {C MT MU : Nat → Int32} {j : Nat} (hr : C j = 114) (hL : LN r c C MS MT j) (hu : ∀ i, ¬ (17 ≤ i ∧ i ≤ 21) → MU i = MT i) (hl : (MU 18, MU 17, MU 19, MU 20) = lkS (MT 9 ^^^ MT 10) (MT 9) (nI j) (MT 18, MT 17, MT 19, MT 20) (r * c)) (h21 : MU 21 = MT 21 ||| (MT 9 ^^^ MT 10)) : LN r c C MS MU (j + 1) := by
  obtain ⟨l1, l2, l3, l4, l5, l6, l7, l8⟩ := hL
  have hw : MT 9 ^^^ MT 10 = 0 := by
    refine b_ext (fun i hi => ?_)
    rw [b_xor, b_0, l2]
    cases bt (MT 10) i <;> rfl
  rw [lk_no (fun i _ => by rw [hw, b_0])] at hl
  obtain ⟨q1, hl2⟩ := Prod.mk.inj hl
  obtain ⟨q2, hl3⟩ := Prod.mk.inj hl2
  obtain ⟨q3, q4⟩ := Prod.mk.inj hl3
  refine ⟨fun i hi => (hu i (by omega)).trans (l1 i hi), by rw [hu 9 (by omega), hu 10 (by omega)]; exact l2, ?_, by rw [hu 10 (by omega)]; exact l4, fun i hi => ?_, by rw [q4]; exact l6, by rw [q2]; exact l7, ?_⟩
  · rw [hu 10 (by omega), lbN_succ, hr, if_neg (by decide), if_neg (by decide), if_pos (by decide)]
    exact l3
  · have e := (sm_r (κ := 3) (p := 0) (τ := tauG r c i) (C := C) hr).1
    have q := l5 i hi
    rw [hu 10 (by omega)]
    exact ⟨q.1.trans (congrArg Prod.fst e).symm, q.2.trans (congrArg (fun z => z.2.1) e).symm⟩
  · rw [h21, hw, l8]
    refine b_ext (fun i hi => ?_)
    rw [b_or, b_0]; rfl
def SN (r c : Nat) (C A : Nat → Int32) (j : Nat) : Prop := ∀ i, i < r * c → A i = (smS 3 0 (tauG r c i) C j).2.2.1
theorem sn_look {r c : Nat} {C MT A : Nat → Int32} {j : Nat} (hr : C j = 114) (hL : LN r c C MS MT j) (hA : SN r c C A j) : SN r c C (lsF r c (r * c) (MT 9) A) (j + 1) := by
  intro i hi
  have e := (sm_r (κ := 3) (p := 0) (τ := tauG r c i) (C := C) hr).2.1
  unfold lsF
  rw [if_pos hi, e, hA i hi, hL.2.1, (hL.2.2.2.2.1 i hi).1, (hL.2.2.2.2.1 i hi).2]
theorem sn_write {r c : Nat} {C A : Nat → Int32} {j : Nat} (hr : ¬ C j = 114) (hA : SN r c C A j) : SN r c C A (j + 1) := by
  intro i hi
  rw [(sm_w (κ := 3) (p := 0) (τ := tauG r c i) (C := C) hr).2.1]
  exact hA i hi
theorem m_layRun {r c f h t : Nat} (hgeo : GeoOk r c f h t) (hms : MSok r c f h t MS) {sl : Nat} (hsl : sl ≤ 64) (h2 : MS 2 = nI sl) (hC : ∀ j, j < sl → sgnB (MA 3 j) = true) {k κ p : Nat} (hfs : FS k κ p MS) (hk : k < r * c) (h3 : κ < 3) (hp : p < ptsN κ) (h22 : MS 22 = 0) : CC 6 mX4_layRun 0 0 [.ref 0] (WM MA MS Mh v) (fun r0 w1 => ∃ MT, w1 = (WM MA MT Mh v) ∧ LR r c k κ p (MA 3) MS MT sl ∧ r0 = none) := by
  have h25 : r * c ≤ 25 := Nat.mul_le_mul hgeo.1.2 hgeo.2.1.2
  have h9a : 9 ≤ r * c := Nat.mul_le_mul hgeo.1.1 hgeo.2.1.1
  refine CC.of okX4_layRun.1 (Nat.le_of_ble_eq_true rfl) (fun g M => ?_)
  have lp : ∀ m j (MT : Nat → Int32), j + m = sl → LR r c k κ p (MA 3) MS MT j → g 0 0 45 [(0, .ref 0), (1, .int (allI (r * c))), (2, .int (nI j))] [] (WM MA MT Mh v) := by
    intro m
    induction m with
    | zero =>
      intro j MT hj hL
      have ej : j = sl := by omega
      subst ej
      have hst : MT 2 = nI j := (hL.1 2 (by omega)).trans h2
      refine M.blk (is := [(.iload_n 2, 2, 0, 0), (.aload_n 0, 0, 0, 0), (.getfield 51, 4, 2, 0)]) (pc1 := 50) (lo1 := [(0, .ref 0), (1, .int (allI (r * c))), (2, .int (nI j))]) (st1 := [.int (MT 2), .int (nI j)]) (w1 := (WM MA MT Mh v)) (by decide +kernel) rfl ?_
      rw [hst]
      refine M.icmp_ge (off := 82) (tgt := 132) (nx := 53) (by decide +kernel) (fun z50 => ?_) (fun z50 => by exfalso; exact z50 (nI_le (Nat.le_refl _) (by omega)))
      exact M.retv (nx := 133) (by decide +kernel) ⟨MT, rfl, hL, rfl⟩
    | succ m ih =>
      intro j MT hj hL
      have hst : MT 2 = nI sl := (hL.1 2 (by omega)).trans h2
      have hms2 := keep_ms hL.1 hms
      have hs := hC j (by omega)
      have hfs2 := keep_fs hL.1 hfs
      have h222 : MT 22 = 0 := (hL.1 22 (by omega)).trans h22
      refine M.blk (is := [(.iload_n 2, 2, 0, 0), (.aload_n 0, 0, 0, 0), (.getfield 51, 4, 2, 0)]) (pc1 := 50) (lo1 := [(0, .ref 0), (1, .int (allI (r * c))), (2, .int (nI j))]) (st1 := [.int (MT 2), .int (nI j)]) (w1 := (WM MA MT Mh v)) (by decide +kernel) rfl ?_
      rw [hst]
      refine M.icmp_ge (off := 82) (tgt := 132) (nx := 53) (by decide +kernel) (fun z50 => by exfalso; exact nI_ge (show j < sl by omega) (by omega) z50) (fun z50 => ?_)
      refine M.blk (is := [(.aload_n 0, 0, 0, 0), (.getfield 13, 4, 3, 0), (.iload_n 2, 2, 0, 0)]) (pc1 := 58) (lo1 := [(0, .ref 0), (1, .int (allI (r * c))), (2, .int (nI j))]) (st1 := [.int (nI j), .ref 2]) (w1 := (WM MA MT Mh v)) (by decide +kernel) rfl ?_
      refine M.ald (n := 64) (f := MA 3) (j := j) (nx := 59) (by decide +kernel) rfl rfl (by omega) (by decide) ?_
      refine M.blk (is := [(.istore_n 3, 3, 0, 0), (.iload_n 3, 3, 0, 0), (.bipush 114, 0, 0, 114)]) (pc1 := 63) (lo1 := [(3, .int ((MA 3) j)), (0, .ref 0), (1, .int (allI (r * c))), (2, .int (nI j))]) (st1 := [.int 114, .int ((MA 3) j)]) (w1 := (WM MA MT Mh v)) (by decide +kernel) rfl ?_
      refine M.icmp_ne (off := 15) (tgt := 78) (nx := 66) (by decide +kernel) (fun z63 => ?_) (fun z63 => ?_)
      · refine M.blk (is := [(.aload_n 0, 0, 0, 0), (.iload_n 3, 3, 0, 0), (.bipush 97, 0, 0, 97)]) (pc1 := 82) (lo1 := [(3, .int ((MA 3) j)), (0, .ref 0), (1, .int (allI (r * c))), (2, .int (nI j))]) (st1 := [.int 97, .int ((MA 3) j), .ref 0]) (w1 := (WM MA MT Mh v)) (by decide +kernel) rfl ?_
        refine M.icmp_ge (off := 14) (tgt := 96) (nx := 85) (by decide +kernel) (fun z82 => ?_) (fun z82 => ?_)
        · refine M.blk (is := [(.iload_n 1, 1, 0, 0), (.iload_n 3, 3, 0, 0), (.bipush 122, 0, 0, 122)]) (pc1 := 100) (lo1 := [(3, .int ((MA 3) j)), (0, .ref 0), (1, .int (allI (r * c))), (2, .int (nI j))]) (st1 := [.int 122, .int ((MA 3) j), .int (allI (r * c)), .ref 0]) (w1 := (WM MA MT Mh v)) (by decide +kernel) rfl ?_
          refine M.icmp_ne (off := 7) (tgt := 107) (nx := 103) (by decide +kernel) (fun z100 => ?_) (fun z100 => ?_)
          · refine M.blk (is := [(.iload_n 3, 3, 0, 0), (.bipush 111, 0, 0, 111)]) (pc1 := 110) (lo1 := [(3, .int ((MA 3) j)), (0, .ref 0), (1, .int (allI (r * c))), (2, .int (nI j))]) (st1 := [.int 111, .int ((MA 3) j), .int (allI (r * c)), .ref 0]) (w1 := (WM MA MT Mh v)) (by decide +kernel) rfl ?_
            refine M.icmp_ne (off := 7) (tgt := 117) (nx := 113) (by decide +kernel) (fun z110 => ?_) (fun z110 => ?_)
            · refine M.blk (is := [(.aload_n 0, 0, 0, 0), (.getfield 136, 4, 10, 0), (.iconst (-1), 0, 0, (-1)), (.ixor, 0, 0, 0)]) (pc1 := 123) (lo1 := [(3, .int ((MA 3) j)), (0, .ref 0), (1, .int (allI (r * c))), (2, .int (nI j))]) (st1 := [.int ((MT 10) ^^^ (-1)), .int (allI (r * c)), .ref 0]) (w1 := (WM MA MT Mh v)) (by decide +kernel) rfl ?_
              refine M.callVv (as := [.int (allI (r * c)), .int ((MT 10) ^^^ (-1))]) (st := []) (nx := 126) okX4_writeAll lkX4_164 (m_writeAll (MS := MT) hgeo hms2 hfs2 hk h3 hp (allI (r * c)) ((MT 10) ^^^ (-1))) (by decide +kernel) (by decide) rfl (Nat.le_of_ble_eq_true rfl) rfl (by decide) ?_
              show g 0 0 126 [(3, .int ((MA 3) j)), (0, .ref 0), (1, .int (allI (r * c))), (2, .int (nI j))] [] (WM MA (upd (upd MT 9 (wAl r c k κ p (allI (r * c)) ((MT 10) ^^^ (-1)) (plI (allI (r * c)) (nrI r c k) ((MT 10) ^^^ (-1)) (MT 9)) (r * c))) 10 (shI (allI (r * c)) ((MT 10) ^^^ (-1)) (MT 10))) Mh v)
              refine M.blk (is := [(.iinc 2 1, 2, 0, 1), (.goto (-84), 45, 0, 0)]) (pc1 := 45) (lo1 := [(2, .int ((nI j) + 1)), (3, .int ((MA 3) j)), (0, .ref 0), (1, .int (allI (r * c)))]) (st1 := []) (w1 := (WM MA (upd (upd MT 9 (wAl r c k κ p (allI (r * c)) ((MT 10) ^^^ (-1)) (plI (allI (r * c)) (nrI r c k) ((MT 10) ^^^ (-1)) (MT 9)) (r * c))) 10 (shI (allI (r * c)) ((MT 10) ^^^ (-1)) (MT 10))) Mh v)) (by decide +kernel) rfl ?_
              refine M.lsub [2, 3, 0] (lo1 := [(0, .ref 0), (1, .int (allI (r * c))), (2, .int ((nI j) + 1))]) rfl ?_
              rw [nI_1]
              have hwh : whI r c (MA 3 j) = _ := if_neg (fun h => absurd z82 (by rw [Int32.not_le]; exact h))
              have htd : tdI (r * c) (MA 3 j) (MT 10) = _ := (if_neg z100).trans (if_neg z110)
              exact ih (j + 1) _ (by omega) (lr_write hgeo hk h3 hp hs z63 hL (fun i hi => by repeat rw [pk_un (by omega)]) (by rw [hwh, htd]; rfl) (by rw [hwh, htd]; rfl))
            · refine M.blk (is := [(.iload_n 1, 1, 0, 0), (.goto 9, 123, 0, 0)]) (pc1 := 123) (lo1 := [(3, .int ((MA 3) j)), (0, .ref 0), (1, .int (allI (r * c))), (2, .int (nI j))]) (st1 := [.int (allI (r * c)), .int (allI (r * c)), .ref 0]) (w1 := (WM MA MT Mh v)) (by decide +kernel) rfl ?_
              refine M.callVv (as := [.int (allI (r * c)), .int (allI (r * c))]) (st := []) (nx := 126) okX4_writeAll lkX4_164 (m_writeAll (MS := MT) hgeo hms2 hfs2 hk h3 hp (allI (r * c)) (allI (r * c))) (by decide +kernel) (by decide) rfl (Nat.le_of_ble_eq_true rfl) rfl (by decide) ?_
              show g 0 0 126 [(3, .int ((MA 3) j)), (0, .ref 0), (1, .int (allI (r * c))), (2, .int (nI j))] [] (WM MA (upd (upd MT 9 (wAl r c k κ p (allI (r * c)) (allI (r * c)) (plI (allI (r * c)) (nrI r c k) (allI (r * c)) (MT 9)) (r * c))) 10 (shI (allI (r * c)) (allI (r * c)) (MT 10))) Mh v)
              refine M.blk (is := [(.iinc 2 1, 2, 0, 1), (.goto (-84), 45, 0, 0)]) (pc1 := 45) (lo1 := [(2, .int ((nI j) + 1)), (3, .int ((MA 3) j)), (0, .ref 0), (1, .int (allI (r * c)))]) (st1 := []) (w1 := (WM MA (upd (upd MT 9 (wAl r c k κ p (allI (r * c)) (allI (r * c)) (plI (allI (r * c)) (nrI r c k) (allI (r * c)) (MT 9)) (r * c))) 10 (shI (allI (r * c)) (allI (r * c)) (MT 10))) Mh v)) (by decide +kernel) rfl ?_
              refine M.lsub [2, 3, 0] (lo1 := [(0, .ref 0), (1, .int (allI (r * c))), (2, .int ((nI j) + 1))]) rfl ?_
              rw [nI_1]
              have hwh : whI r c (MA 3 j) = _ := if_neg (fun h => absurd z82 (by rw [Int32.not_le]; exact h))
              have htd : tdI (r * c) (MA 3 j) (MT 10) = _ := (if_neg z100).trans (if_pos z110)
              exact ih (j + 1) _ (by omega) (lr_write hgeo hk h3 hp hs z63 hL (fun i hi => by repeat rw [pk_un (by omega)]) (by rw [hwh, htd]; rfl) (by rw [hwh, htd]; rfl))
          · refine M.blk (is := [(.iconst 0, 0, 0, 0), (.goto 19, 123, 0, 0)]) (pc1 := 123) (lo1 := [(3, .int ((MA 3) j)), (0, .ref 0), (1, .int (allI (r * c))), (2, .int (nI j))]) (st1 := [.int 0, .int (allI (r * c)), .ref 0]) (w1 := (WM MA MT Mh v)) (by decide +kernel) rfl ?_
            refine M.callVv (as := [.int (allI (r * c)), .int 0]) (st := []) (nx := 126) okX4_writeAll lkX4_164 (m_writeAll (MS := MT) hgeo hms2 hfs2 hk h3 hp (allI (r * c)) 0) (by decide +kernel) (by decide) rfl (Nat.le_of_ble_eq_true rfl) rfl (by decide) ?_
            show g 0 0 126 [(3, .int ((MA 3) j)), (0, .ref 0), (1, .int (allI (r * c))), (2, .int (nI j))] [] (WM MA (upd (upd MT 9 (wAl r c k κ p (allI (r * c)) 0 (plI (allI (r * c)) (nrI r c k) 0 (MT 9)) (r * c))) 10 (shI (allI (r * c)) 0 (MT 10))) Mh v)
            refine M.blk (is := [(.iinc 2 1, 2, 0, 1), (.goto (-84), 45, 0, 0)]) (pc1 := 45) (lo1 := [(2, .int ((nI j) + 1)), (3, .int ((MA 3) j)), (0, .ref 0), (1, .int (allI (r * c)))]) (st1 := []) (w1 := (WM MA (upd (upd MT 9 (wAl r c k κ p (allI (r * c)) 0 (plI (allI (r * c)) (nrI r c k) 0 (MT 9)) (r * c))) 10 (shI (allI (r * c)) 0 (MT 10))) Mh v)) (by decide +kernel) rfl ?_
            refine M.lsub [2, 3, 0] (lo1 := [(0, .ref 0), (1, .int (allI (r * c))), (2, .int ((nI j) + 1))]) rfl ?_
            rw [nI_1]
            have hwh : whI r c (MA 3 j) = _ := if_neg (fun h => absurd z82 (by rw [Int32.not_le]; exact h))
            have htd : tdI (r * c) (MA 3 j) (MT 10) = _ := if_pos z100
            exact ih (j + 1) _ (by omega) (lr_write hgeo hk h3 hp hs z63 hL (fun i hi => by repeat rw [pk_un (by omega)]) (by rw [hwh, htd]; rfl) (by rw [hwh, htd]; rfl))
        · refine M.blk (is := [(.aload_n 0, 0, 0, 0), (.iload_n 3, 3, 0, 0), (.bipush 48, 0, 0, 48), (.isub, 0, 0, 0)]) (pc1 := 90) (lo1 := [(3, .int ((MA 3) j)), (0, .ref 0), (1, .int (allI (r * c))), (2, .int (nI j))]) (st1 := [.int (((MA 3) j) - 48), .ref 0, .ref 0]) (w1 := (WM MA MT Mh v)) (by decide +kernel) rfl ?_
          have hf : ¬ figF (MA 3 j) = 0 := by
            rcases sg_cases hs z63 with e | e | e
            · rw [e] at z82; exact absurd (by decide) z82
            · rw [e] at z82; exact absurd (by decide) z82
            · exact e.1
          rw [(fig_idx hf).1]
          refine M.callVi (as := [.int (nI (figT (MA 3 j)))]) (st := [.ref 0]) (nx := 93) okX4_ofType lkX4_161 (m_ofType hgeo hms2 (x := figT (MA 3 j)) (fig_idx hf).2) (by decide +kernel) (by decide) rfl (Nat.le_of_ble_eq_true rfl) rfl (by decide) ?_
          refine M.blk (is := [(.goto 4, 97, 0, 0), (.iload_n 3, 3, 0, 0), (.bipush 122, 0, 0, 122)]) (pc1 := 100) (lo1 := [(3, .int ((MA 3) j)), (0, .ref 0), (1, .int (allI (r * c))), (2, .int (nI j))]) (st1 := [.int 122, .int ((MA 3) j), .int (nI (mkT c (figT (MA 3 j)) (r * c))), .ref 0]) (w1 := (WM MA MT Mh v)) (by decide +kernel) rfl ?_
          refine M.icmp_ne (off := 7) (tgt := 107) (nx := 103) (by decide +kernel) (fun z100 => ?_) (fun z100 => ?_)
          · refine M.blk (is := [(.iload_n 3, 3, 0, 0), (.bipush 111, 0, 0, 111)]) (pc1 := 110) (lo1 := [(3, .int ((MA 3) j)), (0, .ref 0), (1, .int (allI (r * c))), (2, .int (nI j))]) (st1 := [.int 111, .int ((MA 3) j), .int (nI (mkT c (figT (MA 3 j)) (r * c))), .ref 0]) (w1 := (WM MA MT Mh v)) (by decide +kernel) rfl ?_
            refine M.icmp_ne (off := 7) (tgt := 117) (nx := 113) (by decide +kernel) (fun z110 => ?_) (fun z110 => ?_)
            · refine M.blk (is := [(.aload_n 0, 0, 0, 0), (.getfield 136, 4, 10, 0), (.iconst (-1), 0, 0, (-1)), (.ixor, 0, 0, 0)]) (pc1 := 123) (lo1 := [(3, .int ((MA 3) j)), (0, .ref 0), (1, .int (allI (r * c))), (2, .int (nI j))]) (st1 := [.int ((MT 10) ^^^ (-1)), .int (nI (mkT c (figT (MA 3 j)) (r * c))), .ref 0]) (w1 := (WM MA MT Mh v)) (by decide +kernel) rfl ?_
              refine M.callVv (as := [.int (nI (mkT c (figT (MA 3 j)) (r * c))), .int ((MT 10) ^^^ (-1))]) (st := []) (nx := 126) okX4_writeAll lkX4_164 (m_writeAll (MS := MT) hgeo hms2 hfs2 hk h3 hp (nI (mkT c (figT (MA 3 j)) (r * c))) ((MT 10) ^^^ (-1))) (by decide +kernel) (by decide) rfl (Nat.le_of_ble_eq_true rfl) rfl (by decide) ?_
              show g 0 0 126 [(3, .int ((MA 3) j)), (0, .ref 0), (1, .int (allI (r * c))), (2, .int (nI j))] [] (WM MA (upd (upd MT 9 (wAl r c k κ p (nI (mkT c (figT (MA 3 j)) (r * c))) ((MT 10) ^^^ (-1)) (plI (nI (mkT c (figT (MA 3 j)) (r * c))) (nrI r c k) ((MT 10) ^^^ (-1)) (MT 9)) (r * c))) 10 (shI (nI (mkT c (figT (MA 3 j)) (r * c))) ((MT 10) ^^^ (-1)) (MT 10))) Mh v)
              refine M.blk (is := [(.iinc 2 1, 2, 0, 1), (.goto (-84), 45, 0, 0)]) (pc1 := 45) (lo1 := [(2, .int ((nI j) + 1)), (3, .int ((MA 3) j)), (0, .ref 0), (1, .int (allI (r * c)))]) (st1 := []) (w1 := (WM MA (upd (upd MT 9 (wAl r c k κ p (nI (mkT c (figT (MA 3 j)) (r * c))) ((MT 10) ^^^ (-1)) (plI (nI (mkT c (figT (MA 3 j)) (r * c))) (nrI r c k) ((MT 10) ^^^ (-1)) (MT 9)) (r * c))) 10 (shI (nI (mkT c (figT (MA 3 j)) (r * c))) ((MT 10) ^^^ (-1)) (MT 10))) Mh v)) (by decide +kernel) rfl ?_
              refine M.lsub [2, 3, 0] (lo1 := [(0, .ref 0), (1, .int (allI (r * c))), (2, .int ((nI j) + 1))]) rfl ?_
              rw [nI_1]
              have hwh : whI r c (MA 3 j) = _ := if_pos (Int32.not_le.mp z82)
              have htd : tdI (r * c) (MA 3 j) (MT 10) = _ := (if_neg z100).trans (if_neg z110)
              exact ih (j + 1) _ (by omega) (lr_write hgeo hk h3 hp hs z63 hL (fun i hi => by repeat rw [pk_un (by omega)]) (by rw [hwh, htd]; rfl) (by rw [hwh, htd]; rfl))
            · refine M.blk (is := [(.iload_n 1, 1, 0, 0), (.goto 9, 123, 0, 0)]) (pc1 := 123) (lo1 := [(3, .int ((MA 3) j)), (0, .ref 0), (1, .int (allI (r * c))), (2, .int (nI j))]) (st1 := [.int (allI (r * c)), .int (nI (mkT c (figT (MA 3 j)) (r * c))), .ref 0]) (w1 := (WM MA MT Mh v)) (by decide +kernel) rfl ?_
              refine M.callVv (as := [.int (nI (mkT c (figT (MA 3 j)) (r * c))), .int (allI (r * c))]) (st := []) (nx := 126) okX4_writeAll lkX4_164 (m_writeAll (MS := MT) hgeo hms2 hfs2 hk h3 hp (nI (mkT c (figT (MA 3 j)) (r * c))) (allI (r * c))) (by decide +kernel) (by decide) rfl (Nat.le_of_ble_eq_true rfl) rfl (by decide) ?_
              show g 0 0 126 [(3, .int ((MA 3) j)), (0, .ref 0), (1, .int (allI (r * c))), (2, .int (nI j))] [] (WM MA (upd (upd MT 9 (wAl r c k κ p (nI (mkT c (figT (MA 3 j)) (r * c))) (allI (r * c)) (plI (nI (mkT c (figT (MA 3 j)) (r * c))) (nrI r c k) (allI (r * c)) (MT 9)) (r * c))) 10 (shI (nI (mkT c (figT (MA 3 j)) (r * c))) (allI (r * c)) (MT 10))) Mh v)
              refine M.blk (is := [(.iinc 2 1, 2, 0, 1), (.goto (-84), 45, 0, 0)]) (pc1 := 45) (lo1 := [(2, .int ((nI j) + 1)), (3, .int ((MA 3) j)), (0, .ref 0), (1, .int (allI (r * c)))]) (st1 := []) (w1 := (WM MA (upd (upd MT 9 (wAl r c k κ p (nI (mkT c (figT (MA 3 j)) (r * c))) (allI (r * c)) (plI (nI (mkT c (figT (MA 3 j)) (r * c))) (nrI r c k) (allI (r * c)) (MT 9)) (r * c))) 10 (shI (nI (mkT c (figT (MA 3 j)) (r * c))) (allI (r * c)) (MT 10))) Mh v)) (by decide +kernel) rfl ?_
              refine M.lsub [2, 3, 0] (lo1 := [(0, .ref 0), (1, .int (allI (r * c))), (2, .int ((nI j) + 1))]) rfl ?_
              rw [nI_1]
              have hwh : whI r c (MA 3 j) = _ := if_pos (Int32.not_le.mp z82)
              have htd : tdI (r * c) (MA 3 j) (MT 10) = _ := (if_neg z100).trans (if_pos z110)
              exact ih (j + 1) _ (by omega) (lr_write hgeo hk h3 hp hs z63 hL (fun i hi => by repeat rw [pk_un (by omega)]) (by rw [hwh, htd]; rfl) (by rw [hwh, htd]; rfl))
          · refine M.blk (is := [(.iconst 0, 0, 0, 0), (.goto 19, 123, 0, 0)]) (pc1 := 123) (lo1 := [(3, .int ((MA 3) j)), (0, .ref 0), (1, .int (allI (r * c))), (2, .int (nI j))]) (st1 := [.int 0, .int (nI (mkT c (figT (MA 3 j)) (r * c))), .ref 0]) (w1 := (WM MA MT Mh v)) (by decide +kernel) rfl ?_
            refine M.callVv (as := [.int (nI (mkT c (figT (MA 3 j)) (r * c))), .int 0]) (st := []) (nx := 126) okX4_writeAll lkX4_164 (m_writeAll (MS := MT) hgeo hms2 hfs2 hk h3 hp (nI (mkT c (figT (MA 3 j)) (r * c))) 0) (by decide +kernel) (by decide) rfl (Nat.le_of_ble_eq_true rfl) rfl (by decide) ?_
            show g 0 0 126 [(3, .int ((MA 3) j)), (0, .ref 0), (1, .int (allI (r * c))), (2, .int (nI j))] [] (WM MA (upd (upd MT 9 (wAl r c k κ p (nI (mkT c (figT (MA 3 j)) (r * c))) 0 (plI (nI (mkT c (figT (MA 3 j)) (r * c))) (nrI r c k) 0 (MT 9)) (r * c))) 10 (shI (nI (mkT c (figT (MA 3 j)) (r * c))) 0 (MT 10))) Mh v)
            refine M.blk (is := [(.iinc 2 1, 2, 0, 1), (.goto (-84), 45, 0, 0)]) (pc1 := 45) (lo1 := [(2, .int ((nI j) + 1)), (3, .int ((MA 3) j)), (0, .ref 0), (1, .int (allI (r * c)))]) (st1 := []) (w1 := (WM MA (upd (upd MT 9 (wAl r c k κ p (nI (mkT c (figT (MA 3 j)) (r * c))) 0 (plI (nI (mkT c (figT (MA 3 j)) (r * c))) (nrI r c k) 0 (MT 9)) (r * c))) 10 (shI (nI (mkT c (figT (MA 3 j)) (r * c))) 0 (MT 10))) Mh v)) (by decide +kernel) rfl ?_
            refine M.lsub [2, 3, 0] (lo1 := [(0, .ref 0), (1, .int (allI (r * c))), (2, .int ((nI j) + 1))]) rfl ?_
            rw [nI_1]
            have hwh : whI r c (MA 3 j) = _ := if_pos (Int32.not_le.mp z82)
            have htd : tdI (r * c) (MA 3 j) (MT 10) = _ := if_pos z100
            exact ih (j + 1) _ (by omega) (lr_write hgeo hk h3 hp hs z63 hL (fun i hi => by repeat rw [pk_un (by omega)]) (by rw [hwh, htd]; rfl) (by rw [hwh, htd]; rfl))
      · refine M.blk (is := [(.aload_n 0, 0, 0, 0), (.iload_n 2, 2, 0, 0)]) (pc1 := 68) (lo1 := [(3, .int ((MA 3) j)), (0, .ref 0), (1, .int (allI (r * c))), (2, .int (nI j))]) (st1 := [.int (nI j), .ref 0]) (w1 := (WM MA MT Mh v)) (by decide +kernel) rfl ?_
        refine M.callVv (as := [.int (nI j)]) (st := []) (nx := 71) okX4_look lkX4_154 (m_look (MS := MT) hgeo hms2 (nI j)) (by decide +kernel) (by decide) rfl (Nat.le_of_ble_eq_true rfl) rfl (by decide) ?_
        show g 0 0 71 [(3, .int ((MA 3) j)), (0, .ref 0), (1, .int (allI (r * c))), (2, .int (nI j))] [] (WM MA (upd (upd (upd (upd (upd MT 18 ((lkS (MT 9 ^^^ MT 10) (MT 9) (nI j) (MT 18, MT 17, MT 19, MT 20) (r * c)).1)) 17 ((lkS (MT 9 ^^^ MT 10) (MT 9) (nI j) (MT 18, MT 17, MT 19, MT 20) (r * c)).2.1)) 19 ((lkS (MT 9 ^^^ MT 10) (MT 9) (nI j) (MT 18, MT 17, MT 19, MT 20) (r * c)).2.2.1)) 20 ((lkS (MT 9 ^^^ MT 10) (MT 9) (nI j) (MT 18, MT 17, MT 19, MT 20) (r * c)).2.2.2)) 21 (MT 21 ||| (MT 9 ^^^ MT 10))) Mh v)
        refine M.blk (is := [(.aload_n 0, 0, 0, 0)]) (pc1 := 72) (lo1 := [(3, .int ((MA 3) j)), (0, .ref 0), (1, .int (allI (r * c))), (2, .int (nI j))]) (st1 := [.ref 0]) (w1 := (WM MA (upd (upd (upd (upd (upd MT 18 ((lkS (MT 9 ^^^ MT 10) (MT 9) (nI j) (MT 18, MT 17, MT 19, MT 20) (r * c)).1)) 17 ((lkS (MT 9 ^^^ MT 10) (MT 9) (nI j) (MT 18, MT 17, MT 19, MT 20) (r * c)).2.1)) 19 ((lkS (MT 9 ^^^ MT 10) (MT 9) (nI j) (MT 18, MT 17, MT 19, MT 20) (r * c)).2.2.1)) 20 ((lkS (MT 9 ^^^ MT 10) (MT 9) (nI j) (MT 18, MT 17, MT 19, MT 20) (r * c)).2.2.2)) 21 (MT 21 ||| (MT 9 ^^^ MT 10))) Mh v)) (by decide +kernel) rfl ?_
        refine M.callVv (as := []) (st := []) (nx := 75) okX4_laySeen lkX4_158 (m_laySeenN (MS := (upd (upd (upd (upd (upd MT 18 ((lkS (MT 9 ^^^ MT 10) (MT 9) (nI j) (MT 18, MT 17, MT 19, MT 20) (r * c)).1)) 17 ((lkS (MT 9 ^^^ MT 10) (MT 9) (nI j) (MT 18, MT 17, MT 19, MT 20) (r * c)).2.1)) 19 ((lkS (MT 9 ^^^ MT 10) (MT 9) (nI j) (MT 18, MT 17, MT 19, MT 20) (r * c)).2.2.1)) 20 ((lkS (MT 9 ^^^ MT 10) (MT 9) (nI j) (MT 18, MT 17, MT 19, MT 20) (r * c)).2.2.2)) 21 (MT 21 ||| (MT 9 ^^^ MT 10)))) hgeo hms2 h222) (by decide +kernel) (by decide) rfl (Nat.le_of_ble_eq_true rfl) rfl (by decide) ?_
        refine M.blk (is := [(.goto 51, 126, 0, 0), (.iinc 2 1, 2, 0, 1), (.goto (-84), 45, 0, 0)]) (pc1 := 45) (lo1 := [(2, .int ((nI j) + 1)), (3, .int ((MA 3) j)), (0, .ref 0), (1, .int (allI (r * c)))]) (st1 := []) (w1 := (WM MA (upd (upd (upd (upd (upd MT 18 ((lkS (MT 9 ^^^ MT 10) (MT 9) (nI j) (MT 18, MT 17, MT 19, MT 20) (r * c)).1)) 17 ((lkS (MT 9 ^^^ MT 10) (MT 9) (nI j) (MT 18, MT 17, MT 19, MT 20) (r * c)).2.1)) 19 ((lkS (MT 9 ^^^ MT 10) (MT 9) (nI j) (MT 18, MT 17, MT 19, MT 20) (r * c)).2.2.1)) 20 ((lkS (MT 9 ^^^ MT 10) (MT 9) (nI j) (MT 18, MT 17, MT 19, MT 20) (r * c)).2.2.2)) 21 (MT 21 ||| (MT 9 ^^^ MT 10))) Mh v)) (by decide +kernel) rfl ?_
        refine M.lsub [2, 3, 0] (lo1 := [(0, .ref 0), (1, .int (allI (r * c))), (2, .int ((nI j) + 1))]) rfl ?_
        rw [nI_1]
        exact ih (j + 1) _ (by omega) (lr_look hgeo hk (show j < 64 by omega) z63 hL (fun i hi => by repeat rw [pk_un (by omega)]) rfl rfl)
  show g 0 0 0 [(0, .ref 0)] [] (WM MA MS Mh v)
  refine M.blk (is := [(.aload_n 0, 0, 0, 0), (.iconst 0, 0, 0, 0), (.putfield 92, 4, 9, 0), (.aload_n 0, 0, 0, 0), (.iconst 0, 0, 0, 0), (.putfield 136, 4, 10, 0), (.aload_n 0, 0, 0, 0), (.iconst 0, 0, 0, 0), (.putfield 139, 4, 20, 0), (.aload_n 0, 0, 0, 0), (.iconst 0, 0, 0, 0), (.putfield 151, 4, 21, 0), (.aload_n 0, 0, 0, 0), (.iconst (-1), 0, 0, (-1)), (.putfield 145, 4, 17, 0), (.aload_n 0, 0, 0, 0), (.iconst (-1), 0, 0, (-1)), (.putfield 142, 4, 18, 0), (.aload_n 0, 0, 0, 0)]) (pc1 := 31) (lo1 := [(0, .ref 0)]) (st1 := [.ref 0]) (w1 := (WM MA (upd (upd (upd (upd (upd (upd MS 9 0) 10 0) 20 0) 21 0) 17 (-1)) 18 (-1)) Mh v)) (by decide +kernel) rfl ?_
  refine M.callVv (as := []) (st := []) (nx := 34) okX4_hold lkX4_130 (m_hold (MS := (upd (upd (upd (upd (upd (upd MS 9 0) 10 0) 20 0) 21 0) 17 (-1)) 18 (-1))) hgeo hms hfs hk h3 hp) (by decide +kernel) (by decide) rfl (Nat.le_of_ble_eq_true rfl) rfl (by decide) ?_
  show g 0 0 34 [(0, .ref 0)] [] (WM MA (upd (upd (upd (upd (upd (upd MS 10 0) 20 0) 21 0) 17 (-1)) 18 (-1)) 9 (hldN r c k κ p 0)) Mh v)
  refine M.blk (is := [(.iconst 1, 0, 0, 1), (.aload_n 0, 0, 0, 0)]) (pc1 := 36) (lo1 := [(0, .ref 0)]) (st1 := [.ref 0, .int 1]) (w1 := (WM MA (upd (upd (upd (upd (upd (upd MS 10 0) 20 0) 21 0) 17 (-1)) 18 (-1)) 9 (hldN r c k κ p 0)) Mh v)) (by decide +kernel) rfl ?_
  refine M.callVi (as := []) (st := [.int 1]) (nx := 39) okX4_cells lkX4_57 (m_cells (MS := (upd (upd (upd (upd (upd (upd MS 10 0) 20 0) 21 0) 17 (-1)) 18 (-1)) 9 (hldN r c k κ p 0))) hms.1 hms.2.1) (by decide +kernel) (by decide) rfl (Nat.le_of_ble_eq_true rfl) rfl (by decide) ?_
  refine M.blk (is := [(.ishl, 0, 0, 0), (.iconst 1, 0, 0, 1), (.isub, 0, 0, 0)]) (pc1 := 42) (lo1 := [(0, .ref 0)]) (st1 := [.int (((1 : Int32) <<< ((nI (r * c)) &&& 31)) - 1)]) (w1 := (WM MA (upd (upd (upd (upd (upd (upd MS 10 0) 20 0) 21 0) 17 (-1)) 18 (-1)) 9 (hldN r c k κ p 0)) Mh v)) (by decide +kernel) rfl ?_
  show g 0 0 42 [(0, .ref 0)] [.int (allI (r * c))] (WM MA (upd (upd (upd (upd (upd (upd MS 10 0) 20 0) 21 0) 17 (-1)) 18 (-1)) 9 (hldN r c k κ p 0)) Mh v)
  refine M.blk (is := [(.istore_n 1, 1, 0, 0), (.iconst 0, 0, 0, 0), (.istore_n 2, 2, 0, 0)]) (pc1 := 45) (lo1 := [(2, .int 0), (1, .int (allI (r * c))), (0, .ref 0)]) (st1 := []) (w1 := (WM MA (upd (upd (upd (upd (upd (upd MS 10 0) 20 0) 21 0) 17 (-1)) 18 (-1)) 9 (hldN r c k κ p 0)) Mh v)) (by decide +kernel) rfl ?_
  refine M.lsub [2, 1, 0] (lo1 := [(0, .ref 0), (1, .int (allI (r * c))), (2, .int 0)]) rfl ?_
  exact lp sl 0 _ (by omega) (lr_0 hgeo hk (fun i hi => by repeat rw [pk_un (by omega)]) rfl rfl rfl rfl rfl)
theorem m_layRunN {r c f h t : Nat} (hgeo : GeoOk r c f h t) (hms : MSok r c f h t MS) {sl : Nat} (hsl : sl ≤ 64) (h2 : MS 2 = nI sl) (hC : ∀ j, j < sl → sgnB (MA 3 j) = true) (h11 : MS 11 = -1) (h22 : MS 22 = 0) : CC 6 mX4_layRun 0 0 [.ref 0] (WM MA MS Mh v) (fun r0 w1 => ∃ MT, w1 = (WM MA MT Mh v) ∧ LN r c (MA 3) MS MT sl ∧ r0 = none) := by
  have h25 : r * c ≤ 25 := Nat.mul_le_mul hgeo.1.2 hgeo.2.1.2
  have h9a : 9 ≤ r * c := Nat.mul_le_mul hgeo.1.1 hgeo.2.1.1
  refine CC.of okX4_layRun.1 (Nat.le_of_ble_eq_true rfl) (fun g M => ?_)
  have lp : ∀ m j (MT : Nat → Int32), j + m = sl → LN r c (MA 3) MS MT j → g 0 0 45 [(0, .ref 0), (1, .int (allI (r * c))), (2, .int (nI j))] [] (WM MA MT Mh v) := by
    intro m
    induction m with
    | zero =>
      intro j MT hj hL
      have ej : j = sl := by omega
      subst ej
      have hst : MT 2 = nI j := (hL.1 2 (by omega)).trans h2
      refine M.blk (is := [(.iload_n 2, 2, 0, 0), (.aload_n 0, 0, 0, 0), (.getfield 51, 4, 2, 0)]) (pc1 := 50) (lo1 := [(0, .ref 0), (1, .int (allI (r * c))), (2, .int (nI j))]) (st1 := [.int (MT 2), .int (nI j)]) (w1 := (WM MA MT Mh v)) (by decide +kernel) rfl ?_
      rw [hst]
      refine M.icmp_ge (off := 82) (tgt := 132) (nx := 53) (by decide +kernel) (fun z50 => ?_) (fun z50 => by exfalso; exact z50 (nI_le (Nat.le_refl _) (by omega)))
      exact M.retv (nx := 133) (by decide +kernel) ⟨MT, rfl, hL, rfl⟩
    | succ m ih =>
      intro j MT hj hL
      have hst : MT 2 = nI sl := (hL.1 2 (by omega)).trans h2
      have hms2 := keep_ms hL.1 hms
      have hs := hC j (by omega)
      have h112 : MT 11 = -1 := (hL.1 11 (by omega)).trans h11
      have h222 : MT 22 = 0 := (hL.1 22 (by omega)).trans h22
      refine M.blk (is := [(.iload_n 2, 2, 0, 0), (.aload_n 0, 0, 0, 0), (.getfield 51, 4, 2, 0)]) (pc1 := 50) (lo1 := [(0, .ref 0), (1, .int (allI (r * c))), (2, .int (nI j))]) (st1 := [.int (MT 2), .int (nI j)]) (w1 := (WM MA MT Mh v)) (by decide +kernel) rfl ?_
      rw [hst]
      refine M.icmp_ge (off := 82) (tgt := 132) (nx := 53) (by decide +kernel) (fun z50 => by exfalso; exact nI_ge (show j < sl by omega) (by omega) z50) (fun z50 => ?_)
      refine M.blk (is := [(.aload_n 0, 0, 0, 0), (.getfield 13, 4, 3, 0), (.iload_n 2, 2, 0, 0)]) (pc1 := 58) (lo1 := [(0, .ref 0), (1, .int (allI (r * c))), (2, .int (nI j))]) (st1 := [.int (nI j), .ref 2]) (w1 := (WM MA MT Mh v)) (by decide +kernel) rfl ?_
      refine M.ald (n := 64) (f := MA 3) (j := j) (nx := 59) (by decide +kernel) rfl rfl (by omega) (by decide) ?_
      refine M.blk (is := [(.istore_n 3, 3, 0, 0), (.iload_n 3, 3, 0, 0), (.bipush 114, 0, 0, 114)]) (pc1 := 63) (lo1 := [(3, .int ((MA 3) j)), (0, .ref 0), (1, .int (allI (r * c))), (2, .int (nI j))]) (st1 := [.int 114, .int ((MA 3) j)]) (w1 := (WM MA MT Mh v)) (by decide +kernel) rfl ?_
      refine M.icmp_ne (off := 15) (tgt := 78) (nx := 66) (by decide +kernel) (fun z63 => ?_) (fun z63 => ?_)
      · refine M.blk (is := [(.aload_n 0, 0, 0, 0), (.iload_n 3, 3, 0, 0), (.bipush 97, 0, 0, 97)]) (pc1 := 82) (lo1 := [(3, .int ((MA 3) j)), (0, .ref 0), (1, .int (allI (r * c))), (2, .int (nI j))]) (st1 := [.int 97, .int ((MA 3) j), .ref 0]) (w1 := (WM MA MT Mh v)) (by decide +kernel) rfl ?_
        refine M.icmp_ge (off := 14) (tgt := 96) (nx := 85) (by decide +kernel) (fun z82 => ?_) (fun z82 => ?_)
        · refine M.blk (is := [(.iload_n 1, 1, 0, 0), (.iload_n 3, 3, 0, 0), (.bipush 122, 0, 0, 122)]) (pc1 := 100) (lo1 := [(3, .int ((MA 3) j)), (0, .ref 0), (1, .int (allI (r * c))), (2, .int (nI j))]) (st1 := [.int 122, .int ((MA 3) j), .int (allI (r * c)), .ref 0]) (w1 := (WM MA MT Mh v)) (by decide +kernel) rfl ?_
          refine M.icmp_ne (off := 7) (tgt := 107) (nx := 103) (by decide +kernel) (fun z100 => ?_) (fun z100 => ?_)
          · refine M.blk (is := [(.iload_n 3, 3, 0, 0), (.bipush 111, 0, 0, 111)]) (pc1 := 110) (lo1 := [(3, .int ((MA 3) j)), (0, .ref 0), (1, .int (allI (r * c))), (2, .int (nI j))]) (st1 := [.int 111, .int ((MA 3) j), .int (allI (r * c)), .ref 0]) (w1 := (WM MA MT Mh v)) (by decide +kernel) rfl ?_
            refine M.icmp_ne (off := 7) (tgt := 117) (nx := 113) (by decide +kernel) (fun z110 => ?_) (fun z110 => ?_)
            · refine M.blk (is := [(.aload_n 0, 0, 0, 0), (.getfield 136, 4, 10, 0), (.iconst (-1), 0, 0, (-1)), (.ixor, 0, 0, 0)]) (pc1 := 123) (lo1 := [(3, .int ((MA 3) j)), (0, .ref 0), (1, .int (allI (r * c))), (2, .int (nI j))]) (st1 := [.int ((MT 10) ^^^ (-1)), .int (allI (r * c)), .ref 0]) (w1 := (WM MA MT Mh v)) (by decide +kernel) rfl ?_
              refine M.callVv (as := [.int (allI (r * c)), .int ((MT 10) ^^^ (-1))]) (st := []) (nx := 126) okX4_writeAll lkX4_164 (m_writeAllN (MS := MT) hgeo hms2 h112 (allI (r * c)) ((MT 10) ^^^ (-1))) (by decide +kernel) (by decide) rfl (Nat.le_of_ble_eq_true rfl) rfl (by decide) ?_
              show g 0 0 126 [(3, .int ((MA 3) j)), (0, .ref 0), (1, .int (allI (r * c))), (2, .int (nI j))] [] (WM MA (upd (upd MT 9 (plI (allI (r * c)) 0 ((MT 10) ^^^ (-1)) (MT 9))) 10 (shI (allI (r * c)) ((MT 10) ^^^ (-1)) (MT 10))) Mh v)
              refine M.blk (is := [(.iinc 2 1, 2, 0, 1), (.goto (-84), 45, 0, 0)]) (pc1 := 45) (lo1 := [(2, .int ((nI j) + 1)), (3, .int ((MA 3) j)), (0, .ref 0), (1, .int (allI (r * c)))]) (st1 := []) (w1 := (WM MA (upd (upd MT 9 (plI (allI (r * c)) 0 ((MT 10) ^^^ (-1)) (MT 9))) 10 (shI (allI (r * c)) ((MT 10) ^^^ (-1)) (MT 10))) Mh v)) (by decide +kernel) rfl ?_
              refine M.lsub [2, 3, 0] (lo1 := [(0, .ref 0), (1, .int (allI (r * c))), (2, .int ((nI j) + 1))]) rfl ?_
              rw [nI_1]
              have hwh : whI r c (MA 3 j) = _ := if_neg (fun h => absurd z82 (by rw [Int32.not_le]; exact h))
              have htd : tdI (r * c) (MA 3 j) (MT 10) = _ := (if_neg z100).trans (if_neg z110)
              exact ih (j + 1) _ (by omega) (ln_write hgeo hs z63 hL (fun i hi => by repeat rw [pk_un (by omega)]) (by rw [hwh, htd]; rfl) (by rw [hwh, htd]; rfl))
            · refine M.blk (is := [(.iload_n 1, 1, 0, 0), (.goto 9, 123, 0, 0)]) (pc1 := 123) (lo1 := [(3, .int ((MA 3) j)), (0, .ref 0), (1, .int (allI (r * c))), (2, .int (nI j))]) (st1 := [.int (allI (r * c)), .int (allI (r * c)), .ref 0]) (w1 := (WM MA MT Mh v)) (by decide +kernel) rfl ?_
              refine M.callVv (as := [.int (allI (r * c)), .int (allI (r * c))]) (st := []) (nx := 126) okX4_writeAll lkX4_164 (m_writeAllN (MS := MT) hgeo hms2 h112 (allI (r * c)) (allI (r * c))) (by decide +kernel) (by decide) rfl (Nat.le_of_ble_eq_true rfl) rfl (by decide) ?_
              show g 0 0 126 [(3, .int ((MA 3) j)), (0, .ref 0), (1, .int (allI (r * c))), (2, .int (nI j))] [] (WM MA (upd (upd MT 9 (plI (allI (r * c)) 0 (allI (r * c)) (MT 9))) 10 (shI (allI (r * c)) (allI (r * c)) (MT 10))) Mh v)
              refine M.blk (is := [(.iinc 2 1, 2, 0, 1), (.goto (-84), 45, 0, 0)]) (pc1 := 45) (lo1 := [(2, .int ((nI j) + 1)), (3, .int ((MA 3) j)), (0, .ref 0), (1, .int (allI (r * c)))]) (st1 := []) (w1 := (WM MA (upd (upd MT 9 (plI (allI (r * c)) 0 (allI (r * c)) (MT 9))) 10 (shI (allI (r * c)) (allI (r * c)) (MT 10))) Mh v)) (by decide +kernel) rfl ?_
              refine M.lsub [2, 3, 0] (lo1 := [(0, .ref 0), (1, .int (allI (r * c))), (2, .int ((nI j) + 1))]) rfl ?_
              rw [nI_1]
              have hwh : whI r c (MA 3 j) = _ := if_neg (fun h => absurd z82 (by rw [Int32.not_le]; exact h))
              have htd : tdI (r * c) (MA 3 j) (MT 10) = _ := (if_neg z100).trans (if_pos z110)
              exact ih (j + 1) _ (by omega) (ln_write hgeo hs z63 hL (fun i hi => by repeat rw [pk_un (by omega)]) (by rw [hwh, htd]; rfl) (by rw [hwh, htd]; rfl))
          · refine M.blk (is := [(.iconst 0, 0, 0, 0), (.goto 19, 123, 0, 0)]) (pc1 := 123) (lo1 := [(3, .int ((MA 3) j)), (0, .ref 0), (1, .int (allI (r * c))), (2, .int (nI j))]) (st1 := [.int 0, .int (allI (r * c)), .ref 0]) (w1 := (WM MA MT Mh v)) (by decide +kernel) rfl ?_
            refine M.callVv (as := [.int (allI (r * c)), .int 0]) (st := []) (nx := 126) okX4_writeAll lkX4_164 (m_writeAllN (MS := MT) hgeo hms2 h112 (allI (r * c)) 0) (by decide +kernel) (by decide) rfl (Nat.le_of_ble_eq_true rfl) rfl (by decide) ?_
            show g 0 0 126 [(3, .int ((MA 3) j)), (0, .ref 0), (1, .int (allI (r * c))), (2, .int (nI j))] [] (WM MA (upd (upd MT 9 (plI (allI (r * c)) 0 0 (MT 9))) 10 (shI (allI (r * c)) 0 (MT 10))) Mh v)
            refine M.blk (is := [(.iinc 2 1, 2, 0, 1), (.goto (-84), 45, 0, 0)]) (pc1 := 45) (lo1 := [(2, .int ((nI j) + 1)), (3, .int ((MA 3) j)), (0, .ref 0), (1, .int (allI (r * c)))]) (st1 := []) (w1 := (WM MA (upd (upd MT 9 (plI (allI (r * c)) 0 0 (MT 9))) 10 (shI (allI (r * c)) 0 (MT 10))) Mh v)) (by decide +kernel) rfl ?_
            refine M.lsub [2, 3, 0] (lo1 := [(0, .ref 0), (1, .int (allI (r * c))), (2, .int ((nI j) + 1))]) rfl ?_
            rw [nI_1]
            have hwh : whI r c (MA 3 j) = _ := if_neg (fun h => absurd z82 (by rw [Int32.not_le]; exact h))
            have htd : tdI (r * c) (MA 3 j) (MT 10) = _ := if_pos z100
            exact ih (j + 1) _ (by omega) (ln_write hgeo hs z63 hL (fun i hi => by repeat rw [pk_un (by omega)]) (by rw [hwh, htd]; rfl) (by rw [hwh, htd]; rfl))
        · refine M.blk (is := [(.aload_n 0, 0, 0, 0), (.iload_n 3, 3, 0, 0), (.bipush 48, 0, 0, 48), (.isub, 0, 0, 0)]) (pc1 := 90) (lo1 := [(3, .int ((MA 3) j)), (0, .ref 0), (1, .int (allI (r * c))), (2, .int (nI j))]) (st1 := [.int (((MA 3) j) - 48), .ref 0, .ref 0]) (w1 := (WM MA MT Mh v)) (by decide +kernel) rfl ?_
          have hf : ¬ figF (MA 3 j) = 0 := by
            rcases sg_cases hs z63 with e | e | e
            · rw [e] at z82; exact absurd (by decide) z82
            · rw [e] at z82; exact absurd (by decide) z82
            · exact e.1
          rw [(fig_idx hf).1]
          refine M.callVi (as := [.int (nI (figT (MA 3 j)))]) (st := [.ref 0]) (nx := 93) okX4_ofType lkX4_161 (m_ofType hgeo hms2 (x := figT (MA 3 j)) (fig_idx hf).2) (by decide +kernel) (by decide) rfl (Nat.le_of_ble_eq_true rfl) rfl (by decide) ?_
          refine M.blk (is := [(.goto 4, 97, 0, 0), (.iload_n 3, 3, 0, 0), (.bipush 122, 0, 0, 122)]) (pc1 := 100) (lo1 := [(3, .int ((MA 3) j)), (0, .ref 0), (1, .int (allI (r * c))), (2, .int (nI j))]) (st1 := [.int 122, .int ((MA 3) j), .int (nI (mkT c (figT (MA 3 j)) (r * c))), .ref 0]) (w1 := (WM MA MT Mh v)) (by decide +kernel) rfl ?_
          refine M.icmp_ne (off := 7) (tgt := 107) (nx := 103) (by decide +kernel) (fun z100 => ?_) (fun z100 => ?_)
          · refine M.blk (is := [(.iload_n 3, 3, 0, 0), (.bipush 111, 0, 0, 111)]) (pc1 := 110) (lo1 := [(3, .int ((MA 3) j)), (0, .ref 0), (1, .int (allI (r * c))), (2, .int (nI j))]) (st1 := [.int 111, .int ((MA 3) j), .int (nI (mkT c (figT (MA 3 j)) (r * c))), .ref 0]) (w1 := (WM MA MT Mh v)) (by decide +kernel) rfl ?_
            refine M.icmp_ne (off := 7) (tgt := 117) (nx := 113) (by decide +kernel) (fun z110 => ?_) (fun z110 => ?_)
            · refine M.blk (is := [(.aload_n 0, 0, 0, 0), (.getfield 136, 4, 10, 0), (.iconst (-1), 0, 0, (-1)), (.ixor, 0, 0, 0)]) (pc1 := 123) (lo1 := [(3, .int ((MA 3) j)), (0, .ref 0), (1, .int (allI (r * c))), (2, .int (nI j))]) (st1 := [.int ((MT 10) ^^^ (-1)), .int (nI (mkT c (figT (MA 3 j)) (r * c))), .ref 0]) (w1 := (WM MA MT Mh v)) (by decide +kernel) rfl ?_
              refine M.callVv (as := [.int (nI (mkT c (figT (MA 3 j)) (r * c))), .int ((MT 10) ^^^ (-1))]) (st := []) (nx := 126) okX4_writeAll lkX4_164 (m_writeAllN (MS := MT) hgeo hms2 h112 (nI (mkT c (figT (MA 3 j)) (r * c))) ((MT 10) ^^^ (-1))) (by decide +kernel) (by decide) rfl (Nat.le_of_ble_eq_true rfl) rfl (by decide) ?_
              show g 0 0 126 [(3, .int ((MA 3) j)), (0, .ref 0), (1, .int (allI (r * c))), (2, .int (nI j))] [] (WM MA (upd (upd MT 9 (plI (nI (mkT c (figT (MA 3 j)) (r * c))) 0 ((MT 10) ^^^ (-1)) (MT 9))) 10 (shI (nI (mkT c (figT (MA 3 j)) (r * c))) ((MT 10) ^^^ (-1)) (MT 10))) Mh v)
              refine M.blk (is := [(.iinc 2 1, 2, 0, 1), (.goto (-84), 45, 0, 0)]) (pc1 := 45) (lo1 := [(2, .int ((nI j) + 1)), (3, .int ((MA 3) j)), (0, .ref 0), (1, .int (allI (r * c)))]) (st1 := []) (w1 := (WM MA (upd (upd MT 9 (plI (nI (mkT c (figT (MA 3 j)) (r * c))) 0 ((MT 10) ^^^ (-1)) (MT 9))) 10 (shI (nI (mkT c (figT (MA 3 j)) (r * c))) ((MT 10) ^^^ (-1)) (MT 10))) Mh v)) (by decide +kernel) rfl ?_
              refine M.lsub [2, 3, 0] (lo1 := [(0, .ref 0), (1, .int (allI (r * c))), (2, .int ((nI j) + 1))]) rfl ?_
              rw [nI_1]
              have hwh : whI r c (MA 3 j) = _ := if_pos (Int32.not_le.mp z82)
              have htd : tdI (r * c) (MA 3 j) (MT 10) = _ := (if_neg z100).trans (if_neg z110)
              exact ih (j + 1) _ (by omega) (ln_write hgeo hs z63 hL (fun i hi => by repeat rw [pk_un (by omega)]) (by rw [hwh, htd]; rfl) (by rw [hwh, htd]; rfl))
            · refine M.blk (is := [(.iload_n 1, 1, 0, 0), (.goto 9, 123, 0, 0)]) (pc1 := 123) (lo1 := [(3, .int ((MA 3) j)), (0, .ref 0), (1, .int (allI (r * c))), (2, .int (nI j))]) (st1 := [.int (allI (r * c)), .int (nI (mkT c (figT (MA 3 j)) (r * c))), .ref 0]) (w1 := (WM MA MT Mh v)) (by decide +kernel) rfl ?_
              refine M.callVv (as := [.int (nI (mkT c (figT (MA 3 j)) (r * c))), .int (allI (r * c))]) (st := []) (nx := 126) okX4_writeAll lkX4_164 (m_writeAllN (MS := MT) hgeo hms2 h112 (nI (mkT c (figT (MA 3 j)) (r * c))) (allI (r * c))) (by decide +kernel) (by decide) rfl (Nat.le_of_ble_eq_true rfl) rfl (by decide) ?_
              show g 0 0 126 [(3, .int ((MA 3) j)), (0, .ref 0), (1, .int (allI (r * c))), (2, .int (nI j))] [] (WM MA (upd (upd MT 9 (plI (nI (mkT c (figT (MA 3 j)) (r * c))) 0 (allI (r * c)) (MT 9))) 10 (shI (nI (mkT c (figT (MA 3 j)) (r * c))) (allI (r * c)) (MT 10))) Mh v)
              refine M.blk (is := [(.iinc 2 1, 2, 0, 1), (.goto (-84), 45, 0, 0)]) (pc1 := 45) (lo1 := [(2, .int ((nI j) + 1)), (3, .int ((MA 3) j)), (0, .ref 0), (1, .int (allI (r * c)))]) (st1 := []) (w1 := (WM MA (upd (upd MT 9 (plI (nI (mkT c (figT (MA 3 j)) (r * c))) 0 (allI (r * c)) (MT 9))) 10 (shI (nI (mkT c (figT (MA 3 j)) (r * c))) (allI (r * c)) (MT 10))) Mh v)) (by decide +kernel) rfl ?_
              refine M.lsub [2, 3, 0] (lo1 := [(0, .ref 0), (1, .int (allI (r * c))), (2, .int ((nI j) + 1))]) rfl ?_
              rw [nI_1]
              have hwh : whI r c (MA 3 j) = _ := if_pos (Int32.not_le.mp z82)
              have htd : tdI (r * c) (MA 3 j) (MT 10) = _ := (if_neg z100).trans (if_pos z110)
              exact ih (j + 1) _ (by omega) (ln_write hgeo hs z63 hL (fun i hi => by repeat rw [pk_un (by omega)]) (by rw [hwh, htd]; rfl) (by rw [hwh, htd]; rfl))
          · refine M.blk (is := [(.iconst 0, 0, 0, 0), (.goto 19, 123, 0, 0)]) (pc1 := 123) (lo1 := [(3, .int ((MA 3) j)), (0, .ref 0), (1, .int (allI (r * c))), (2, .int (nI j))]) (st1 := [.int 0, .int (nI (mkT c (figT (MA 3 j)) (r * c))), .ref 0]) (w1 := (WM MA MT Mh v)) (by decide +kernel) rfl ?_
            refine M.callVv (as := [.int (nI (mkT c (figT (MA 3 j)) (r * c))), .int 0]) (st := []) (nx := 126) okX4_writeAll lkX4_164 (m_writeAllN (MS := MT) hgeo hms2 h112 (nI (mkT c (figT (MA 3 j)) (r * c))) 0) (by decide +kernel) (by decide) rfl (Nat.le_of_ble_eq_true rfl) rfl (by decide) ?_
            show g 0 0 126 [(3, .int ((MA 3) j)), (0, .ref 0), (1, .int (allI (r * c))), (2, .int (nI j))] [] (WM MA (upd (upd MT 9 (plI (nI (mkT c (figT (MA 3 j)) (r * c))) 0 0 (MT 9))) 10 (shI (nI (mkT c (figT (MA 3 j)) (r * c))) 0 (MT 10))) Mh v)
            refine M.blk (is := [(.iinc 2 1, 2, 0, 1), (.goto (-84), 45, 0, 0)]) (pc1 := 45) (lo1 := [(2, .int ((nI j) + 1)), (3, .int ((MA 3) j)), (0, .ref 0), (1, .int (allI (r * c)))]) (st1 := []) (w1 := (WM MA (upd (upd MT 9 (plI (nI (mkT c (figT (MA 3 j)) (r * c))) 0 0 (MT 9))) 10 (shI (nI (mkT c (figT (MA 3 j)) (r * c))) 0 (MT 10))) Mh v)) (by decide +kernel) rfl ?_
            refine M.lsub [2, 3, 0] (lo1 := [(0, .ref 0), (1, .int (allI (r * c))), (2, .int ((nI j) + 1))]) rfl ?_
            rw [nI_1]
            have hwh : whI r c (MA 3 j) = _ := if_pos (Int32.not_le.mp z82)
            have htd : tdI (r * c) (MA 3 j) (MT 10) = _ := if_pos z100
            exact ih (j + 1) _ (by omega) (ln_write hgeo hs z63 hL (fun i hi => by repeat rw [pk_un (by omega)]) (by rw [hwh, htd]; rfl) (by rw [hwh, htd]; rfl))
      · refine M.blk (is := [(.aload_n 0, 0, 0, 0), (.iload_n 2, 2, 0, 0)]) (pc1 := 68) (lo1 := [(3, .int ((MA 3) j)), (0, .ref 0), (1, .int (allI (r * c))), (2, .int (nI j))]) (st1 := [.int (nI j), .ref 0]) (w1 := (WM MA MT Mh v)) (by decide +kernel) rfl ?_
        refine M.callVv (as := [.int (nI j)]) (st := []) (nx := 71) okX4_look lkX4_154 (m_look (MS := MT) hgeo hms2 (nI j)) (by decide +kernel) (by decide) rfl (Nat.le_of_ble_eq_true rfl) rfl (by decide) ?_
        show g 0 0 71 [(3, .int ((MA 3) j)), (0, .ref 0), (1, .int (allI (r * c))), (2, .int (nI j))] [] (WM MA (upd (upd (upd (upd (upd MT 18 ((lkS (MT 9 ^^^ MT 10) (MT 9) (nI j) (MT 18, MT 17, MT 19, MT 20) (r * c)).1)) 17 ((lkS (MT 9 ^^^ MT 10) (MT 9) (nI j) (MT 18, MT 17, MT 19, MT 20) (r * c)).2.1)) 19 ((lkS (MT 9 ^^^ MT 10) (MT 9) (nI j) (MT 18, MT 17, MT 19, MT 20) (r * c)).2.2.1)) 20 ((lkS (MT 9 ^^^ MT 10) (MT 9) (nI j) (MT 18, MT 17, MT 19, MT 20) (r * c)).2.2.2)) 21 (MT 21 ||| (MT 9 ^^^ MT 10))) Mh v)
        refine M.blk (is := [(.aload_n 0, 0, 0, 0)]) (pc1 := 72) (lo1 := [(3, .int ((MA 3) j)), (0, .ref 0), (1, .int (allI (r * c))), (2, .int (nI j))]) (st1 := [.ref 0]) (w1 := (WM MA (upd (upd (upd (upd (upd MT 18 ((lkS (MT 9 ^^^ MT 10) (MT 9) (nI j) (MT 18, MT 17, MT 19, MT 20) (r * c)).1)) 17 ((lkS (MT 9 ^^^ MT 10) (MT 9) (nI j) (MT 18, MT 17, MT 19, MT 20) (r * c)).2.1)) 19 ((lkS (MT 9 ^^^ MT 10) (MT 9) (nI j) (MT 18, MT 17, MT 19, MT 20) (r * c)).2.2.1)) 20 ((lkS (MT 9 ^^^ MT 10) (MT 9) (nI j) (MT 18, MT 17, MT 19, MT 20) (r * c)).2.2.2)) 21 (MT 21 ||| (MT 9 ^^^ MT 10))) Mh v)) (by decide +kernel) rfl ?_
        refine M.callVv (as := []) (st := []) (nx := 75) okX4_laySeen lkX4_158 (m_laySeenN (MS := (upd (upd (upd (upd (upd MT 18 ((lkS (MT 9 ^^^ MT 10) (MT 9) (nI j) (MT 18, MT 17, MT 19, MT 20) (r * c)).1)) 17 ((lkS (MT 9 ^^^ MT 10) (MT 9) (nI j) (MT 18, MT 17, MT 19, MT 20) (r * c)).2.1)) 19 ((lkS (MT 9 ^^^ MT 10) (MT 9) (nI j) (MT 18, MT 17, MT 19, MT 20) (r * c)).2.2.1)) 20 ((lkS (MT 9 ^^^ MT 10) (MT 9) (nI j) (MT 18, MT 17, MT 19, MT 20) (r * c)).2.2.2)) 21 (MT 21 ||| (MT 9 ^^^ MT 10)))) hgeo hms2 h222) (by decide +kernel) (by decide) rfl (Nat.le_of_ble_eq_true rfl) rfl (by decide) ?_
        refine M.blk (is := [(.goto 51, 126, 0, 0), (.iinc 2 1, 2, 0, 1), (.goto (-84), 45, 0, 0)]) (pc1 := 45) (lo1 := [(2, .int ((nI j) + 1)), (3, .int ((MA 3) j)), (0, .ref 0), (1, .int (allI (r * c)))]) (st1 := []) (w1 := (WM MA (upd (upd (upd (upd (upd MT 18 ((lkS (MT 9 ^^^ MT 10) (MT 9) (nI j) (MT 18, MT 17, MT 19, MT 20) (r * c)).1)) 17 ((lkS (MT 9 ^^^ MT 10) (MT 9) (nI j) (MT 18, MT 17, MT 19, MT 20) (r * c)).2.1)) 19 ((lkS (MT 9 ^^^ MT 10) (MT 9) (nI j) (MT 18, MT 17, MT 19, MT 20) (r * c)).2.2.1)) 20 ((lkS (MT 9 ^^^ MT 10) (MT 9) (nI j) (MT 18, MT 17, MT 19, MT 20) (r * c)).2.2.2)) 21 (MT 21 ||| (MT 9 ^^^ MT 10))) Mh v)) (by decide +kernel) rfl ?_
        refine M.lsub [2, 3, 0] (lo1 := [(0, .ref 0), (1, .int (allI (r * c))), (2, .int ((nI j) + 1))]) rfl ?_
        rw [nI_1]
        exact ih (j + 1) _ (by omega) (ln_look hgeo z63 hL (fun i hi => by repeat rw [pk_un (by omega)]) rfl rfl)
  show g 0 0 0 [(0, .ref 0)] [] (WM MA MS Mh v)
  refine M.blk (is := [(.aload_n 0, 0, 0, 0), (.iconst 0, 0, 0, 0), (.putfield 92, 4, 9, 0), (.aload_n 0, 0, 0, 0), (.iconst 0, 0, 0, 0), (.putfield 136, 4, 10, 0), (.aload_n 0, 0, 0, 0), (.iconst 0, 0, 0, 0), (.putfield 139, 4, 20, 0), (.aload_n 0, 0, 0, 0), (.iconst 0, 0, 0, 0), (.putfield 151, 4, 21, 0), (.aload_n 0, 0, 0, 0), (.iconst (-1), 0, 0, (-1)), (.putfield 145, 4, 17, 0), (.aload_n 0, 0, 0, 0), (.iconst (-1), 0, 0, (-1)), (.putfield 142, 4, 18, 0), (.aload_n 0, 0, 0, 0)]) (pc1 := 31) (lo1 := [(0, .ref 0)]) (st1 := [.ref 0]) (w1 := (WM MA (upd (upd (upd (upd (upd (upd MS 9 0) 10 0) 20 0) 21 0) 17 (-1)) 18 (-1)) Mh v)) (by decide +kernel) rfl ?_
  refine M.callVv (as := []) (st := []) (nx := 34) okX4_hold lkX4_130 (m_holdN (MS := (upd (upd (upd (upd (upd (upd MS 9 0) 10 0) 20 0) 21 0) 17 (-1)) 18 (-1))) h11) (by decide +kernel) (by decide) rfl (Nat.le_of_ble_eq_true rfl) rfl (by decide) ?_
  refine M.blk (is := [(.iconst 1, 0, 0, 1), (.aload_n 0, 0, 0, 0)]) (pc1 := 36) (lo1 := [(0, .ref 0)]) (st1 := [.ref 0, .int 1]) (w1 := (WM MA (upd (upd (upd (upd (upd (upd MS 9 0) 10 0) 20 0) 21 0) 17 (-1)) 18 (-1)) Mh v)) (by decide +kernel) rfl ?_
  refine M.callVi (as := []) (st := [.int 1]) (nx := 39) okX4_cells lkX4_57 (m_cells (MS := (upd (upd (upd (upd (upd (upd MS 9 0) 10 0) 20 0) 21 0) 17 (-1)) 18 (-1))) hms.1 hms.2.1) (by decide +kernel) (by decide) rfl (Nat.le_of_ble_eq_true rfl) rfl (by decide) ?_
  refine M.blk (is := [(.ishl, 0, 0, 0), (.iconst 1, 0, 0, 1), (.isub, 0, 0, 0)]) (pc1 := 42) (lo1 := [(0, .ref 0)]) (st1 := [.int (((1 : Int32) <<< ((nI (r * c)) &&& 31)) - 1)]) (w1 := (WM MA (upd (upd (upd (upd (upd (upd MS 9 0) 10 0) 20 0) 21 0) 17 (-1)) 18 (-1)) Mh v)) (by decide +kernel) rfl ?_
  show g 0 0 42 [(0, .ref 0)] [.int (allI (r * c))] (WM MA (upd (upd (upd (upd (upd (upd MS 9 0) 10 0) 20 0) 21 0) 17 (-1)) 18 (-1)) Mh v)
  refine M.blk (is := [(.istore_n 1, 1, 0, 0), (.iconst 0, 0, 0, 0), (.istore_n 2, 2, 0, 0)]) (pc1 := 45) (lo1 := [(2, .int 0), (1, .int (allI (r * c))), (0, .ref 0)]) (st1 := []) (w1 := (WM MA (upd (upd (upd (upd (upd (upd MS 9 0) 10 0) 20 0) 21 0) 17 (-1)) 18 (-1)) Mh v)) (by decide +kernel) rfl ?_
  refine M.lsub [2, 1, 0] (lo1 := [(0, .ref 0), (1, .int (allI (r * c))), (2, .int 0)]) rfl ?_
  exact lp sl 0 _ (by omega) (ln_0 (fun i hi => by repeat rw [pk_un (by omega)]) rfl rfl rfl rfl rfl)
theorem m_layRunS {r c f h t : Nat} (hgeo : GeoOk r c f h t) (hms : MSok r c f h t MS) {sl : Nat} (hsl : sl ≤ 64) (h2 : MS 2 = nI sl) (hC : ∀ j, j < sl → sgnB (MA 3 j) = true) (h11 : MS 11 = -1) (h22 : MS 22 = 1) (h0 : ∀ i, i < r * c → MA 23 i = 0) : CC 6 mX4_layRun 0 0 [.ref 0] (WM MA MS Mh v) (fun r0 w1 => ∃ MT A, w1 = (WM (va_up MA 23 A) MT Mh v) ∧ LN r c (MA 3) MS MT sl ∧ SN r c (MA 3) A sl ∧ r0 = none) := by
  have h25 : r * c ≤ 25 := Nat.mul_le_mul hgeo.1.2 hgeo.2.1.2
  have h9a : 9 ≤ r * c := Nat.mul_le_mul hgeo.1.1 hgeo.2.1.1
  refine CC.of okX4_layRun.1 (Nat.le_of_ble_eq_true rfl) (fun g M => ?_)
  have lp : ∀ m j (MT A : Nat → Int32), j + m = sl → LN r c (MA 3) MS MT j → SN r c (MA 3) A j → g 0 0 45 [(0, .ref 0), (1, .int (allI (r * c))), (2, .int (nI j))] [] (WM (va_up MA 23 A) MT Mh v) := by
    intro m
    induction m with
    | zero =>
      intro j MT A hj hL hA
      have ej : j = sl := by omega
      subst ej
      have hst : MT 2 = nI j := (hL.1 2 (by omega)).trans h2
      refine M.blk (is := [(.iload_n 2, 2, 0, 0), (.aload_n 0, 0, 0, 0), (.getfield 51, 4, 2, 0)]) (pc1 := 50) (lo1 := [(0, .ref 0), (1, .int (allI (r * c))), (2, .int (nI j))]) (st1 := [.int (MT 2), .int (nI j)]) (w1 := (WM (va_up MA 23 A) MT Mh v)) (by decide +kernel) rfl ?_
      rw [hst]
      refine M.icmp_ge (off := 82) (tgt := 132) (nx := 53) (by decide +kernel) (fun z50 => ?_) (fun z50 => by exfalso; exact z50 (nI_le (Nat.le_refl _) (by omega)))
      exact M.retv (nx := 133) (by decide +kernel) ⟨MT, A, rfl, hL, hA, rfl⟩
    | succ m ih =>
      intro j MT A hj hL hA
      have hst : MT 2 = nI sl := (hL.1 2 (by omega)).trans h2
      have hms2 := keep_ms hL.1 hms
      have hs := hC j (by omega)
      have h112 : MT 11 = -1 := (hL.1 11 (by omega)).trans h11
      have h222 : MT 22 = 1 := (hL.1 22 (by omega)).trans h22
      refine M.blk (is := [(.iload_n 2, 2, 0, 0), (.aload_n 0, 0, 0, 0), (.getfield 51, 4, 2, 0)]) (pc1 := 50) (lo1 := [(0, .ref 0), (1, .int (allI (r * c))), (2, .int (nI j))]) (st1 := [.int (MT 2), .int (nI j)]) (w1 := (WM (va_up MA 23 A) MT Mh v)) (by decide +kernel) rfl ?_
      rw [hst]
      refine M.icmp_ge (off := 82) (tgt := 132) (nx := 53) (by decide +kernel) (fun z50 => by exfalso; exact nI_ge (show j < sl by omega) (by omega) z50) (fun z50 => ?_)
      refine M.blk (is := [(.aload_n 0, 0, 0, 0), (.getfield 13, 4, 3, 0), (.iload_n 2, 2, 0, 0)]) (pc1 := 58) (lo1 := [(0, .ref 0), (1, .int (allI (r * c))), (2, .int (nI j))]) (st1 := [.int (nI j), .ref 2]) (w1 := (WM (va_up MA 23 A) MT Mh v)) (by decide +kernel) rfl ?_
      refine M.ald (n := 64) (f := MA 3) (j := j) (nx := 59) (by decide +kernel) rfl rfl (by omega) (by decide) ?_
      refine M.blk (is := [(.istore_n 3, 3, 0, 0), (.iload_n 3, 3, 0, 0), (.bipush 114, 0, 0, 114)]) (pc1 := 63) (lo1 := [(3, .int ((MA 3) j)), (0, .ref 0), (1, .int (allI (r * c))), (2, .int (nI j))]) (st1 := [.int 114, .int ((MA 3) j)]) (w1 := (WM (va_up MA 23 A) MT Mh v)) (by decide +kernel) rfl ?_
      refine M.icmp_ne (off := 15) (tgt := 78) (nx := 66) (by decide +kernel) (fun z63 => ?_) (fun z63 => ?_)
      · refine M.blk (is := [(.aload_n 0, 0, 0, 0), (.iload_n 3, 3, 0, 0), (.bipush 97, 0, 0, 97)]) (pc1 := 82) (lo1 := [(3, .int ((MA 3) j)), (0, .ref 0), (1, .int (allI (r * c))), (2, .int (nI j))]) (st1 := [.int 97, .int ((MA 3) j), .ref 0]) (w1 := (WM (va_up MA 23 A) MT Mh v)) (by decide +kernel) rfl ?_
        refine M.icmp_ge (off := 14) (tgt := 96) (nx := 85) (by decide +kernel) (fun z82 => ?_) (fun z82 => ?_)
        · refine M.blk (is := [(.iload_n 1, 1, 0, 0), (.iload_n 3, 3, 0, 0), (.bipush 122, 0, 0, 122)]) (pc1 := 100) (lo1 := [(3, .int ((MA 3) j)), (0, .ref 0), (1, .int (allI (r * c))), (2, .int (nI j))]) (st1 := [.int 122, .int ((MA 3) j), .int (allI (r * c)), .ref 0]) (w1 := (WM (va_up MA 23 A) MT Mh v)) (by decide +kernel) rfl ?_
          refine M.icmp_ne (off := 7) (tgt := 107) (nx := 103) (by decide +kernel) (fun z100 => ?_) (fun z100 => ?_)
          · refine M.blk (is := [(.iload_n 3, 3, 0, 0), (.bipush 111, 0, 0, 111)]) (pc1 := 110) (lo1 := [(3, .int ((MA 3) j)), (0, .ref 0), (1, .int (allI (r * c))), (2, .int (nI j))]) (st1 := [.int 111, .int ((MA 3) j), .int (allI (r * c)), .ref 0]) (w1 := (WM (va_up MA 23 A) MT Mh v)) (by decide +kernel) rfl ?_
            refine M.icmp_ne (off := 7) (tgt := 117) (nx := 113) (by decide +kernel) (fun z110 => ?_) (fun z110 => ?_)
            · refine M.blk (is := [(.aload_n 0, 0, 0, 0), (.getfield 136, 4, 10, 0), (.iconst (-1), 0, 0, (-1)), (.ixor, 0, 0, 0)]) (pc1 := 123) (lo1 := [(3, .int ((MA 3) j)), (0, .ref 0), (1, .int (allI (r * c))), (2, .int (nI j))]) (st1 := [.int ((MT 10) ^^^ (-1)), .int (allI (r * c)), .ref 0]) (w1 := (WM (va_up MA 23 A) MT Mh v)) (by decide +kernel) rfl ?_
              refine M.callVv (as := [.int (allI (r * c)), .int ((MT 10) ^^^ (-1))]) (st := []) (nx := 126) okX4_writeAll lkX4_164 (m_writeAllN (MS := MT) hgeo hms2 h112 (allI (r * c)) ((MT 10) ^^^ (-1))) (by decide +kernel) (by decide) rfl (Nat.le_of_ble_eq_true rfl) rfl (by decide) ?_
              show g 0 0 126 [(3, .int ((MA 3) j)), (0, .ref 0), (1, .int (allI (r * c))), (2, .int (nI j))] [] (WM (va_up MA 23 A) (upd (upd MT 9 (plI (allI (r * c)) 0 ((MT 10) ^^^ (-1)) (MT 9))) 10 (shI (allI (r * c)) ((MT 10) ^^^ (-1)) (MT 10))) Mh v)
              refine M.blk (is := [(.iinc 2 1, 2, 0, 1), (.goto (-84), 45, 0, 0)]) (pc1 := 45) (lo1 := [(2, .int ((nI j) + 1)), (3, .int ((MA 3) j)), (0, .ref 0), (1, .int (allI (r * c)))]) (st1 := []) (w1 := (WM (va_up MA 23 A) (upd (upd MT 9 (plI (allI (r * c)) 0 ((MT 10) ^^^ (-1)) (MT 9))) 10 (shI (allI (r * c)) ((MT 10) ^^^ (-1)) (MT 10))) Mh v)) (by decide +kernel) rfl ?_
              refine M.lsub [2, 3, 0] (lo1 := [(0, .ref 0), (1, .int (allI (r * c))), (2, .int ((nI j) + 1))]) rfl ?_
              rw [nI_1]
              have hwh : whI r c (MA 3 j) = _ := if_neg (fun h => absurd z82 (by rw [Int32.not_le]; exact h))
              have htd : tdI (r * c) (MA 3 j) (MT 10) = _ := (if_neg z100).trans (if_neg z110)
              exact ih (j + 1) _ _ (by omega) (ln_write hgeo hs z63 hL (fun i hi => by repeat rw [pk_un (by omega)]) (by rw [hwh, htd]; rfl) (by rw [hwh, htd]; rfl)) (sn_write z63 hA)
            · refine M.blk (is := [(.iload_n 1, 1, 0, 0), (.goto 9, 123, 0, 0)]) (pc1 := 123) (lo1 := [(3, .int ((MA 3) j)), (0, .ref 0), (1, .int (allI (r * c))), (2, .int (nI j))]) (st1 := [.int (allI (r * c)), .int (allI (r * c)), .ref 0]) (w1 := (WM (va_up MA 23 A) MT Mh v)) (by decide +kernel) rfl ?_
              refine M.callVv (as := [.int (allI (r * c)), .int (allI (r * c))]) (st := []) (nx := 126) okX4_writeAll lkX4_164 (m_writeAllN (MS := MT) hgeo hms2 h112 (allI (r * c)) (allI (r * c))) (by decide +kernel) (by decide) rfl (Nat.le_of_ble_eq_true rfl) rfl (by decide) ?_
              show g 0 0 126 [(3, .int ((MA 3) j)), (0, .ref 0), (1, .int (allI (r * c))), (2, .int (nI j))] [] (WM (va_up MA 23 A) (upd (upd MT 9 (plI (allI (r * c)) 0 (allI (r * c)) (MT 9))) 10 (shI (allI (r * c)) (allI (r * c)) (MT 10))) Mh v)
              refine M.blk (is := [(.iinc 2 1, 2, 0, 1), (.goto (-84), 45, 0, 0)]) (pc1 := 45) (lo1 := [(2, .int ((nI j) + 1)), (3, .int ((MA 3) j)), (0, .ref 0), (1, .int (allI (r * c)))]) (st1 := []) (w1 := (WM (va_up MA 23 A) (upd (upd MT 9 (plI (allI (r * c)) 0 (allI (r * c)) (MT 9))) 10 (shI (allI (r * c)) (allI (r * c)) (MT 10))) Mh v)) (by decide +kernel) rfl ?_
              refine M.lsub [2, 3, 0] (lo1 := [(0, .ref 0), (1, .int (allI (r * c))), (2, .int ((nI j) + 1))]) rfl ?_
              rw [nI_1]
              have hwh : whI r c (MA 3 j) = _ := if_neg (fun h => absurd z82 (by rw [Int32.not_le]; exact h))
              have htd : tdI (r * c) (MA 3 j) (MT 10) = _ := (if_neg z100).trans (if_pos z110)
              exact ih (j + 1) _ _ (by omega) (ln_write hgeo hs z63 hL (fun i hi => by repeat rw [pk_un (by omega)]) (by rw [hwh, htd]; rfl) (by rw [hwh, htd]; rfl)) (sn_write z63 hA)
          · refine M.blk (is := [(.iconst 0, 0, 0, 0), (.goto 19, 123, 0, 0)]) (pc1 := 123) (lo1 := [(3, .int ((MA 3) j)), (0, .ref 0), (1, .int (allI (r * c))), (2, .int (nI j))]) (st1 := [.int 0, .int (allI (r * c)), .ref 0]) (w1 := (WM (va_up MA 23 A) MT Mh v)) (by decide +kernel) rfl ?_
            refine M.callVv (as := [.int (allI (r * c)), .int 0]) (st := []) (nx := 126) okX4_writeAll lkX4_164 (m_writeAllN (MS := MT) hgeo hms2 h112 (allI (r * c)) 0) (by decide +kernel) (by decide) rfl (Nat.le_of_ble_eq_true rfl) rfl (by decide) ?_
            show g 0 0 126 [(3, .int ((MA 3) j)), (0, .ref 0), (1, .int (allI (r * c))), (2, .int (nI j))] [] (WM (va_up MA 23 A) (upd (upd MT 9 (plI (allI (r * c)) 0 0 (MT 9))) 10 (shI (allI (r * c)) 0 (MT 10))) Mh v)
            refine M.blk (is := [(.iinc 2 1, 2, 0, 1), (.goto (-84), 45, 0, 0)]) (pc1 := 45) (lo1 := [(2, .int ((nI j) + 1)), (3, .int ((MA 3) j)), (0, .ref 0), (1, .int (allI (r * c)))]) (st1 := []) (w1 := (WM (va_up MA 23 A) (upd (upd MT 9 (plI (allI (r * c)) 0 0 (MT 9))) 10 (shI (allI (r * c)) 0 (MT 10))) Mh v)) (by decide +kernel) rfl ?_
            refine M.lsub [2, 3, 0] (lo1 := [(0, .ref 0), (1, .int (allI (r * c))), (2, .int ((nI j) + 1))]) rfl ?_
            rw [nI_1]
            have hwh : whI r c (MA 3 j) = _ := if_neg (fun h => absurd z82 (by rw [Int32.not_le]; exact h))
            have htd : tdI (r * c) (MA 3 j) (MT 10) = _ := if_pos z100
            exact ih (j + 1) _ _ (by omega) (ln_write hgeo hs z63 hL (fun i hi => by repeat rw [pk_un (by omega)]) (by rw [hwh, htd]; rfl) (by rw [hwh, htd]; rfl)) (sn_write z63 hA)
        · refine M.blk (is := [(.aload_n 0, 0, 0, 0), (.iload_n 3, 3, 0, 0), (.bipush 48, 0, 0, 48), (.isub, 0, 0, 0)]) (pc1 := 90) (lo1 := [(3, .int ((MA 3) j)), (0, .ref 0), (1, .int (allI (r * c))), (2, .int (nI j))]) (st1 := [.int (((MA 3) j) - 48), .ref 0, .ref 0]) (w1 := (WM (va_up MA 23 A) MT Mh v)) (by decide +kernel) rfl ?_
          have hf : ¬ figF (MA 3 j) = 0 := by
            rcases sg_cases hs z63 with e | e | e
            · rw [e] at z82; exact absurd (by decide) z82
            · rw [e] at z82; exact absurd (by decide) z82
            · exact e.1
          rw [(fig_idx hf).1]
          refine M.callVi (as := [.int (nI (figT (MA 3 j)))]) (st := [.ref 0]) (nx := 93) okX4_ofType lkX4_161 (m_ofType hgeo hms2 (x := figT (MA 3 j)) (fig_idx hf).2) (by decide +kernel) (by decide) rfl (Nat.le_of_ble_eq_true rfl) rfl (by decide) ?_
          refine M.blk (is := [(.goto 4, 97, 0, 0), (.iload_n 3, 3, 0, 0), (.bipush 122, 0, 0, 122)]) (pc1 := 100) (lo1 := [(3, .int ((MA 3) j)), (0, .ref 0), (1, .int (allI (r * c))), (2, .int (nI j))]) (st1 := [.int 122, .int ((MA 3) j), .int (nI (mkT c (figT (MA 3 j)) (r * c))), .ref 0]) (w1 := (WM (va_up MA 23 A) MT Mh v)) (by decide +kernel) rfl ?_
          refine M.icmp_ne (off := 7) (tgt := 107) (nx := 103) (by decide +kernel) (fun z100 => ?_) (fun z100 => ?_)
          · refine M.blk (is := [(.iload_n 3, 3, 0, 0), (.bipush 111, 0, 0, 111)]) (pc1 := 110) (lo1 := [(3, .int ((MA 3) j)), (0, .ref 0), (1, .int (allI (r * c))), (2, .int (nI j))]) (st1 := [.int 111, .int ((MA 3) j), .int (nI (mkT c (figT (MA 3 j)) (r * c))), .ref 0]) (w1 := (WM (va_up MA 23 A) MT Mh v)) (by decide +kernel) rfl ?_
            refine M.icmp_ne (off := 7) (tgt := 117) (nx := 113) (by decide +kernel) (fun z110 => ?_) (fun z110 => ?_)
            · refine M.blk (is := [(.aload_n 0, 0, 0, 0), (.getfield 136, 4, 10, 0), (.iconst (-1), 0, 0, (-1)), (.ixor, 0, 0, 0)]) (pc1 := 123) (lo1 := [(3, .int ((MA 3) j)), (0, .ref 0), (1, .int (allI (r * c))), (2, .int (nI j))]) (st1 := [.int ((MT 10) ^^^ (-1)), .int (nI (mkT c (figT (MA 3 j)) (r * c))), .ref 0]) (w1 := (WM (va_up MA 23 A) MT Mh v)) (by decide +kernel) rfl ?_
              refine M.callVv (as := [.int (nI (mkT c (figT (MA 3 j)) (r * c))), .int ((MT 10) ^^^ (-1))]) (st := []) (nx := 126) okX4_writeAll lkX4_164 (m_writeAllN (MS := MT) hgeo hms2 h112 (nI (mkT c (figT (MA 3 j)) (r * c))) ((MT 10) ^^^ (-1))) (by decide +kernel) (by decide) rfl (Nat.le_of_ble_eq_true rfl) rfl (by decide) ?_
              show g 0 0 126 [(3, .int ((MA 3) j)), (0, .ref 0), (1, .int (allI (r * c))), (2, .int (nI j))] [] (WM (va_up MA 23 A) (upd (upd MT 9 (plI (nI (mkT c (figT (MA 3 j)) (r * c))) 0 ((MT 10) ^^^ (-1)) (MT 9))) 10 (shI (nI (mkT c (figT (MA 3 j)) (r * c))) ((MT 10) ^^^ (-1)) (MT 10))) Mh v)
              refine M.blk (is := [(.iinc 2 1, 2, 0, 1), (.goto (-84), 45, 0, 0)]) (pc1 := 45) (lo1 := [(2, .int ((nI j) + 1)), (3, .int ((MA 3) j)), (0, .ref 0), (1, .int (allI (r * c)))]) (st1 := []) (w1 := (WM (va_up MA 23 A) (upd (upd MT 9 (plI (nI (mkT c (figT (MA 3 j)) (r * c))) 0 ((MT 10) ^^^ (-1)) (MT 9))) 10 (shI (nI (mkT c (figT (MA 3 j)) (r * c))) ((MT 10) ^^^ (-1)) (MT 10))) Mh v)) (by decide +kernel) rfl ?_
              refine M.lsub [2, 3, 0] (lo1 := [(0, .ref 0), (1, .int (allI (r * c))), (2, .int ((nI j) + 1))]) rfl ?_
              rw [nI_1]
              have hwh : whI r c (MA 3 j) = _ := if_pos (Int32.not_le.mp z82)
              have htd : tdI (r * c) (MA 3 j) (MT 10) = _ := (if_neg z100).trans (if_neg z110)
              exact ih (j + 1) _ _ (by omega) (ln_write hgeo hs z63 hL (fun i hi => by repeat rw [pk_un (by omega)]) (by rw [hwh, htd]; rfl) (by rw [hwh, htd]; rfl)) (sn_write z63 hA)
            · refine M.blk (is := [(.iload_n 1, 1, 0, 0), (.goto 9, 123, 0, 0)]) (pc1 := 123) (lo1 := [(3, .int ((MA 3) j)), (0, .ref 0), (1, .int (allI (r * c))), (2, .int (nI j))]) (st1 := [.int (allI (r * c)), .int (nI (mkT c (figT (MA 3 j)) (r * c))), .ref 0]) (w1 := (WM (va_up MA 23 A) MT Mh v)) (by decide +kernel) rfl ?_
              refine M.callVv (as := [.int (nI (mkT c (figT (MA 3 j)) (r * c))), .int (allI (r * c))]) (st := []) (nx := 126) okX4_writeAll lkX4_164 (m_writeAllN (MS := MT) hgeo hms2 h112 (nI (mkT c (figT (MA 3 j)) (r * c))) (allI (r * c))) (by decide +kernel) (by decide) rfl (Nat.le_of_ble_eq_true rfl) rfl (by decide) ?_
              show g 0 0 126 [(3, .int ((MA 3) j)), (0, .ref 0), (1, .int (allI (r * c))), (2, .int (nI j))] [] (WM (va_up MA 23 A) (upd (upd MT 9 (plI (nI (mkT c (figT (MA 3 j)) (r * c))) 0 (allI (r * c)) (MT 9))) 10 (shI (nI (mkT c (figT (MA 3 j)) (r * c))) (allI (r * c)) (MT 10))) Mh v)
              refine M.blk (is := [(.iinc 2 1, 2, 0, 1), (.goto (-84), 45, 0, 0)]) (pc1 := 45) (lo1 := [(2, .int ((nI j) + 1)), (3, .int ((MA 3) j)), (0, .ref 0), (1, .int (allI (r * c)))]) (st1 := []) (w1 := (WM (va_up MA 23 A) (upd (upd MT 9 (plI (nI (mkT c (figT (MA 3 j)) (r * c))) 0 (allI (r * c)) (MT 9))) 10 (shI (nI (mkT c (figT (MA 3 j)) (r * c))) (allI (r * c)) (MT 10))) Mh v)) (by decide +kernel) rfl ?_
              refine M.lsub [2, 3, 0] (lo1 := [(0, .ref 0), (1, .int (allI (r * c))), (2, .int ((nI j) + 1))]) rfl ?_
              rw [nI_1]
              have hwh : whI r c (MA 3 j) = _ := if_pos (Int32.not_le.mp z82)
              have htd : tdI (r * c) (MA 3 j) (MT 10) = _ := (if_neg z100).trans (if_pos z110)
              exact ih (j + 1) _ _ (by omega) (ln_write hgeo hs z63 hL (fun i hi => by repeat rw [pk_un (by omega)]) (by rw [hwh, htd]; rfl) (by rw [hwh, htd]; rfl)) (sn_write z63 hA)
          · refine M.blk (is := [(.iconst 0, 0, 0, 0), (.goto 19, 123, 0, 0)]) (pc1 := 123) (lo1 := [(3, .int ((MA 3) j)), (0, .ref 0), (1, .int (allI (r * c))), (2, .int (nI j))]) (st1 := [.int 0, .int (nI (mkT c (figT (MA 3 j)) (r * c))), .ref 0]) (w1 := (WM (va_up MA 23 A) MT Mh v)) (by decide +kernel) rfl ?_
            refine M.callVv (as := [.int (nI (mkT c (figT (MA 3 j)) (r * c))), .int 0]) (st := []) (nx := 126) okX4_writeAll lkX4_164 (m_writeAllN (MS := MT) hgeo hms2 h112 (nI (mkT c (figT (MA 3 j)) (r * c))) 0) (by decide +kernel) (by decide) rfl (Nat.le_of_ble_eq_true rfl) rfl (by decide) ?_
            show g 0 0 126 [(3, .int ((MA 3) j)), (0, .ref 0), (1, .int (allI (r * c))), (2, .int (nI j))] [] (WM (va_up MA 23 A) (upd (upd MT 9 (plI (nI (mkT c (figT (MA 3 j)) (r * c))) 0 0 (MT 9))) 10 (shI (nI (mkT c (figT (MA 3 j)) (r * c))) 0 (MT 10))) Mh v)
            refine M.blk (is := [(.iinc 2 1, 2, 0, 1), (.goto (-84), 45, 0, 0)]) (pc1 := 45) (lo1 := [(2, .int ((nI j) + 1)), (3, .int ((MA 3) j)), (0, .ref 0), (1, .int (allI (r * c)))]) (st1 := []) (w1 := (WM (va_up MA 23 A) (upd (upd MT 9 (plI (nI (mkT c (figT (MA 3 j)) (r * c))) 0 0 (MT 9))) 10 (shI (nI (mkT c (figT (MA 3 j)) (r * c))) 0 (MT 10))) Mh v)) (by decide +kernel) rfl ?_
            refine M.lsub [2, 3, 0] (lo1 := [(0, .ref 0), (1, .int (allI (r * c))), (2, .int ((nI j) + 1))]) rfl ?_
            rw [nI_1]
            have hwh : whI r c (MA 3 j) = _ := if_pos (Int32.not_le.mp z82)
            have htd : tdI (r * c) (MA 3 j) (MT 10) = _ := if_pos z100
            exact ih (j + 1) _ _ (by omega) (ln_write hgeo hs z63 hL (fun i hi => by repeat rw [pk_un (by omega)]) (by rw [hwh, htd]; rfl) (by rw [hwh, htd]; rfl)) (sn_write z63 hA)
      · refine M.blk (is := [(.aload_n 0, 0, 0, 0), (.iload_n 2, 2, 0, 0)]) (pc1 := 68) (lo1 := [(3, .int ((MA 3) j)), (0, .ref 0), (1, .int (allI (r * c))), (2, .int (nI j))]) (st1 := [.int (nI j), .ref 0]) (w1 := (WM (va_up MA 23 A) MT Mh v)) (by decide +kernel) rfl ?_
        refine M.callVv (as := [.int (nI j)]) (st := []) (nx := 71) okX4_look lkX4_154 (m_look (MS := MT) hgeo hms2 (nI j)) (by decide +kernel) (by decide) rfl (Nat.le_of_ble_eq_true rfl) rfl (by decide) ?_
        show g 0 0 71 [(3, .int ((MA 3) j)), (0, .ref 0), (1, .int (allI (r * c))), (2, .int (nI j))] [] (WM (va_up MA 23 A) (upd (upd (upd (upd (upd MT 18 ((lkS (MT 9 ^^^ MT 10) (MT 9) (nI j) (MT 18, MT 17, MT 19, MT 20) (r * c)).1)) 17 ((lkS (MT 9 ^^^ MT 10) (MT 9) (nI j) (MT 18, MT 17, MT 19, MT 20) (r * c)).2.1)) 19 ((lkS (MT 9 ^^^ MT 10) (MT 9) (nI j) (MT 18, MT 17, MT 19, MT 20) (r * c)).2.2.1)) 20 ((lkS (MT 9 ^^^ MT 10) (MT 9) (nI j) (MT 18, MT 17, MT 19, MT 20) (r * c)).2.2.2)) 21 (MT 21 ||| (MT 9 ^^^ MT 10))) Mh v)
        refine M.blk (is := [(.aload_n 0, 0, 0, 0)]) (pc1 := 72) (lo1 := [(3, .int ((MA 3) j)), (0, .ref 0), (1, .int (allI (r * c))), (2, .int (nI j))]) (st1 := [.ref 0]) (w1 := (WM (va_up MA 23 A) (upd (upd (upd (upd (upd MT 18 ((lkS (MT 9 ^^^ MT 10) (MT 9) (nI j) (MT 18, MT 17, MT 19, MT 20) (r * c)).1)) 17 ((lkS (MT 9 ^^^ MT 10) (MT 9) (nI j) (MT 18, MT 17, MT 19, MT 20) (r * c)).2.1)) 19 ((lkS (MT 9 ^^^ MT 10) (MT 9) (nI j) (MT 18, MT 17, MT 19, MT 20) (r * c)).2.2.1)) 20 ((lkS (MT 9 ^^^ MT 10) (MT 9) (nI j) (MT 18, MT 17, MT 19, MT 20) (r * c)).2.2.2)) 21 (MT 21 ||| (MT 9 ^^^ MT 10))) Mh v)) (by decide +kernel) rfl ?_
        refine M.callVv (as := []) (st := []) (nx := 75) okX4_laySeen lkX4_158 (m_laySeen (MS := (upd (upd (upd (upd (upd MT 18 ((lkS (MT 9 ^^^ MT 10) (MT 9) (nI j) (MT 18, MT 17, MT 19, MT 20) (r * c)).1)) 17 ((lkS (MT 9 ^^^ MT 10) (MT 9) (nI j) (MT 18, MT 17, MT 19, MT 20) (r * c)).2.1)) 19 ((lkS (MT 9 ^^^ MT 10) (MT 9) (nI j) (MT 18, MT 17, MT 19, MT 20) (r * c)).2.2.1)) 20 ((lkS (MT 9 ^^^ MT 10) (MT 9) (nI j) (MT 18, MT 17, MT 19, MT 20) (r * c)).2.2.2)) 21 (MT 21 ||| (MT 9 ^^^ MT 10)))) hgeo hms2 h222) (by decide +kernel) (by decide) rfl (Nat.le_of_ble_eq_true rfl) rfl (by decide) ?_
        show g 0 0 75 [(3, .int ((MA 3) j)), (0, .ref 0), (1, .int (allI (r * c))), (2, .int (nI j))] [] (WM (va_up MA 23 (lsF r c (r * c) (MT 9) A)) (upd (upd (upd (upd (upd MT 18 ((lkS (MT 9 ^^^ MT 10) (MT 9) (nI j) (MT 18, MT 17, MT 19, MT 20) (r * c)).1)) 17 ((lkS (MT 9 ^^^ MT 10) (MT 9) (nI j) (MT 18, MT 17, MT 19, MT 20) (r * c)).2.1)) 19 ((lkS (MT 9 ^^^ MT 10) (MT 9) (nI j) (MT 18, MT 17, MT 19, MT 20) (r * c)).2.2.1)) 20 ((lkS (MT 9 ^^^ MT 10) (MT 9) (nI j) (MT 18, MT 17, MT 19, MT 20) (r * c)).2.2.2)) 21 (MT 21 ||| (MT 9 ^^^ MT 10))) Mh v)
        refine M.blk (is := [(.goto 51, 126, 0, 0), (.iinc 2 1, 2, 0, 1), (.goto (-84), 45, 0, 0)]) (pc1 := 45) (lo1 := [(2, .int ((nI j) + 1)), (3, .int ((MA 3) j)), (0, .ref 0), (1, .int (allI (r * c)))]) (st1 := []) (w1 := (WM (va_up MA 23 (lsF r c (r * c) (MT 9) A)) (upd (upd (upd (upd (upd MT 18 ((lkS (MT 9 ^^^ MT 10) (MT 9) (nI j) (MT 18, MT 17, MT 19, MT 20) (r * c)).1)) 17 ((lkS (MT 9 ^^^ MT 10) (MT 9) (nI j) (MT 18, MT 17, MT 19, MT 20) (r * c)).2.1)) 19 ((lkS (MT 9 ^^^ MT 10) (MT 9) (nI j) (MT 18, MT 17, MT 19, MT 20) (r * c)).2.2.1)) 20 ((lkS (MT 9 ^^^ MT 10) (MT 9) (nI j) (MT 18, MT 17, MT 19, MT 20) (r * c)).2.2.2)) 21 (MT 21 ||| (MT 9 ^^^ MT 10))) Mh v)) (by decide +kernel) rfl ?_
        refine M.lsub [2, 3, 0] (lo1 := [(0, .ref 0), (1, .int (allI (r * c))), (2, .int ((nI j) + 1))]) rfl ?_
        rw [nI_1]
        exact ih (j + 1) _ _ (by omega) (ln_look hgeo z63 hL (fun i hi => by repeat rw [pk_un (by omega)]) rfl rfl) (sn_look z63 hL hA)
  show g 0 0 0 [(0, .ref 0)] [] (WM MA MS Mh v)
  refine M.blk (is := [(.aload_n 0, 0, 0, 0), (.iconst 0, 0, 0, 0), (.putfield 92, 4, 9, 0), (.aload_n 0, 0, 0, 0), (.iconst 0, 0, 0, 0), (.putfield 136, 4, 10, 0), (.aload_n 0, 0, 0, 0), (.iconst 0, 0, 0, 0), (.putfield 139, 4, 20, 0), (.aload_n 0, 0, 0, 0), (.iconst 0, 0, 0, 0), (.putfield 151, 4, 21, 0), (.aload_n 0, 0, 0, 0), (.iconst (-1), 0, 0, (-1)), (.putfield 145, 4, 17, 0), (.aload_n 0, 0, 0, 0), (.iconst (-1), 0, 0, (-1)), (.putfield 142, 4, 18, 0), (.aload_n 0, 0, 0, 0)]) (pc1 := 31) (lo1 := [(0, .ref 0)]) (st1 := [.ref 0]) (w1 := (WM MA (upd (upd (upd (upd (upd (upd MS 9 0) 10 0) 20 0) 21 0) 17 (-1)) 18 (-1)) Mh v)) (by decide +kernel) rfl ?_
  refine M.callVv (as := []) (st := []) (nx := 34) okX4_hold lkX4_130 (m_holdN (MS := (upd (upd (upd (upd (upd (upd MS 9 0) 10 0) 20 0) 21 0) 17 (-1)) 18 (-1))) h11) (by decide +kernel) (by decide) rfl (Nat.le_of_ble_eq_true rfl) rfl (by decide) ?_
  refine M.blk (is := [(.iconst 1, 0, 0, 1), (.aload_n 0, 0, 0, 0)]) (pc1 := 36) (lo1 := [(0, .ref 0)]) (st1 := [.ref 0, .int 1]) (w1 := (WM MA (upd (upd (upd (upd (upd (upd MS 9 0) 10 0) 20 0) 21 0) 17 (-1)) 18 (-1)) Mh v)) (by decide +kernel) rfl ?_
  refine M.callVi (as := []) (st := [.int 1]) (nx := 39) okX4_cells lkX4_57 (m_cells (MS := (upd (upd (upd (upd (upd (upd MS 9 0) 10 0) 20 0) 21 0) 17 (-1)) 18 (-1))) hms.1 hms.2.1) (by decide +kernel) (by decide) rfl (Nat.le_of_ble_eq_true rfl) rfl (by decide) ?_
  refine M.blk (is := [(.ishl, 0, 0, 0), (.iconst 1, 0, 0, 1), (.isub, 0, 0, 0)]) (pc1 := 42) (lo1 := [(0, .ref 0)]) (st1 := [.int (((1 : Int32) <<< ((nI (r * c)) &&& 31)) - 1)]) (w1 := (WM MA (upd (upd (upd (upd (upd (upd MS 9 0) 10 0) 20 0) 21 0) 17 (-1)) 18 (-1)) Mh v)) (by decide +kernel) rfl ?_
  show g 0 0 42 [(0, .ref 0)] [.int (allI (r * c))] (WM MA (upd (upd (upd (upd (upd (upd MS 9 0) 10 0) 20 0) 21 0) 17 (-1)) 18 (-1)) Mh v)
  refine M.blk (is := [(.istore_n 1, 1, 0, 0), (.iconst 0, 0, 0, 0), (.istore_n 2, 2, 0, 0)]) (pc1 := 45) (lo1 := [(2, .int 0), (1, .int (allI (r * c))), (0, .ref 0)]) (st1 := []) (w1 := (WM MA (upd (upd (upd (upd (upd (upd MS 9 0) 10 0) 20 0) 21 0) 17 (-1)) 18 (-1)) Mh v)) (by decide +kernel) rfl ?_
  refine M.lsub [2, 1, 0] (lo1 := [(0, .ref 0), (1, .int (allI (r * c))), (2, .int 0)]) rfl ?_
  have e := lp sl 0 _ (MA 23) (by omega) (ln_0 (MT := (upd (upd (upd (upd (upd (upd MS 9 0) 10 0) 20 0) 21 0) 17 (-1)) 18 (-1))) (fun i hi => by repeat rw [pk_un (by omega)]) rfl rfl rfl rfl rfl) h0
  rw [va_up_id (f := MA) (k := 23) rfl] at e
  exact e
end MFIVE
