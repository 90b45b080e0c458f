section MNINE
variable {MA : Nat → Nat → Int32} {MS : Nat → Int32} {Mh : Int64} {v : List Cl}
def duB (th : Nat) (S : Int32) (j : Nat) : Bool := decide (S &&& dueA th j = dueA th j)
theorem sub_iff {S D : Int32} : S &&& D = D ↔ ∀ i, i < 32 → bt D i = true → bt S i = true := by
  constructor
  · intro e i _ hd
    rw [← e, b_and, Bool.and_eq_true] at hd
    exact hd.1
  · intro e
    refine b_ext (fun i hi => ?_)
    rw [b_and]
    cases hd : bt D i
    · rw [Bool.and_false]
    · rw [e i hi hd]; rfl
theorem du_skip {th j : Nat} {S : Int32} (h : ¬ (nI j &&& (nI th ^^^ (-1))) = 0) : duB th S (j + 1) = duB th S j := by
  unfold duB
  rw [show dueA th (j + 1) = dueA th j from if_neg h]
theorem du_go {th j : Nat} {S : Int32} (hj : j < 16) (h : (nI j &&& (nI th ^^^ (-1))) = 0) : duB th S (j + 1) = (duB th S j && (bt S j && bt S (16 + j))) := by
  have e : dueA th (j + 1) = dueA th j ||| ((1 <<< (nI j &&& 31)) ||| (1 <<< ((16 + nI j) &&& 31))) := if_pos h
  have e16 : (16 : Int32) + nI j = nI (16 + j) := by rw [show (16 : Int32) = nI 16 from rfl, nI_add]
  have key : (S &&& dueA th (j + 1) = dueA th (j + 1)) ↔ (S &&& dueA th j = dueA th j ∧ bt S j = true ∧ bt S (16 + j) = true) := by
    rw [sub_iff, sub_iff, e, e16]
    constructor
    · intro hh
      refine ⟨fun i hi hd => hh i hi (by rw [b_or, hd]; rfl), hh j (by omega) ?_, hh (16 + j) (by omega) ?_⟩
      · rw [b_or, b_or, b_1shl (by omega) (by omega), decide_eq_true rfl]; simp
      · rw [b_or, b_or, b_1shl (m := 16 + j) (by omega) (by omega), decide_eq_true rfl]; simp
    · rintro ⟨h1, h2, h3⟩ i hi hd
      rw [b_or, b_or, b_1shl (by omega) hi, b_1shl (by omega) hi] at hd
      by_cases e1 : i = j
      · rw [e1]; exact h2
      · by_cases e2 : i = 16 + j
        · rw [e2]; exact h3
        · rw [decide_eq_false e1, decide_eq_false e2] at hd
          refine h1 i hi ?_
          simpa using hd
  unfold duB
  by_cases h1 : S &&& dueA th j = dueA th j
  · cases h2 : bt S j
    · rw [decide_eq_false (fun hh => absurd (key.mp hh).2.1 (by rw [h2]; decide))]; simp
    · cases h3 : bt S (16 + j)
      · rw [decide_eq_false (fun hh => absurd (key.mp hh).2.2 (by rw [h3]; decide))]; simp
      · rw [decide_eq_true (key.mpr ⟨h1, h2, h3⟩), decide_eq_true h1]; rfl
  · rw [decide_eq_false (fun hh => h1 (key.mp hh).1), decide_eq_false h1]; rfl
theorem m_isWhole {r c f h t : Nat} (hgeo : GeoOk r c f h t) (hms : MSok r c f h t MS) {k : Nat} (hk : k < r * c) : CC 3 mX4_isWhole 0 0 [.ref 0, .int (nI k)] (WM MA MS Mh v) (Rt (b2i (duB (thr r c k) (MA 23 k) 16)) (WM MA MS Mh v)) := by
  have h25 : r * c ≤ 25 := Nat.mul_le_mul hgeo.1.2 hgeo.2.1.2
  have h9a : 9 ≤ r * c := Nat.mul_le_mul hgeo.1.1 hgeo.2.1.1
  refine CC.of okX4_isWhole.1 (Nat.le_of_ble_eq_true rfl) (fun g M => ?_)
  have lp : ∀ m j, j + m = 16 → g 0 0 4 [(0, .ref 0), (1, .int (nI k)), (2, .int (b2i (duB (thr r c k) (MA 23 k) j))), (3, .int (nI j))] [] (WM MA MS Mh v) := by
    intro m
    induction m with
    | zero =>
      intro j hj
      have ej : j = 16 := by omega
      subst ej
      refine M.blk (is := [(.iload_n 3, 3, 0, 0), (.bipush 16, 0, 0, 16)]) (pc1 := 7) (lo1 := [(0, .ref 0), (1, .int (nI k)), (2, .int (b2i (duB (thr r c k) (MA 23 k) 16))), (3, .int (nI 16))]) (st1 := [.int 16, .int (nI 16)]) (w1 := (WM MA MS Mh v)) (by decide +kernel) rfl ?_
      refine M.icmp_ge (off := 60) (tgt := 67) (nx := 10) (by decide +kernel) (fun z7 => ?_) (fun z7 => by exfalso; exact z7 (by decide))
      refine M.blk (is := [(.iload_n 2, 2, 0, 0)]) (pc1 := 68) (lo1 := [(0, .ref 0), (1, .int (nI k)), (2, .int (b2i (duB (thr r c k) (MA 23 k) 16))), (3, .int (nI 16))]) (st1 := [.int (b2i (duB (thr r c k) (MA 23 k) 16))]) (w1 := (WM MA MS Mh v)) (by decide +kernel) rfl ?_
      exact M.retz (nx := 69) (by decide +kernel) (b2i_01 _) ⟨rfl, rfl⟩
    | succ m ih =>
      intro j hj
      refine M.blk (is := [(.iload_n 3, 3, 0, 0), (.bipush 16, 0, 0, 16)]) (pc1 := 7) (lo1 := [(0, .ref 0), (1, .int (nI k)), (2, .int (b2i (duB (thr r c k) (MA 23 k) j))), (3, .int (nI j))]) (st1 := [.int 16, .int (nI j)]) (w1 := (WM MA MS Mh v)) (by decide +kernel) rfl ?_
      refine M.icmp_ge (off := 60) (tgt := 67) (nx := 10) (by decide +kernel) (fun z7 => by exfalso; exact nI_ge (a := j) (b := 16) (by omega) (by decide) z7) (fun z7 => ?_)
      refine M.blk (is := [(.iload_n 3, 3, 0, 0), (.aload_n 0, 0, 0, 0), (.iload_n 1, 1, 0, 0)]) (pc1 := 13) (lo1 := [(0, .ref 0), (1, .int (nI k)), (2, .int (b2i (duB (thr r c k) (MA 23 k) j))), (3, .int (nI j))]) (st1 := [.int (nI k), .ref 0, .int (nI j)]) (w1 := (WM MA MS Mh v)) (by decide +kernel) rfl ?_
      refine M.callVi (as := [.int (nI k)]) (st := [.int (nI j)]) (nx := 16) okX4_besides lkX4_116 (m_besides hgeo hms hk) (by decide +kernel) (by decide) rfl (Nat.le_of_ble_eq_true rfl) rfl (by decide) ?_
      refine M.blk (is := [(.iconst (-1), 0, 0, (-1)), (.ixor, 0, 0, 0), (.iand, 0, 0, 0)]) (pc1 := 19) (lo1 := [(0, .ref 0), (1, .int (nI k)), (2, .int (b2i (duB (thr r c k) (MA 23 k) j))), (3, .int (nI j))]) (st1 := [.int ((nI j) &&& ((nI (thr r c k)) ^^^ (-1)))]) (w1 := (WM MA MS Mh v)) (by decide +kernel) rfl ?_
      refine M.if_ne (off := 42) (tgt := 61) (nx := 22) (by decide +kernel) (fun z19 => ?_) (fun z19 => ?_)
      · refine M.blk (is := [(.iinc 3 1, 3, 0, 1), (.goto (-60), 4, 0, 0)]) (pc1 := 4) (lo1 := [(3, .int ((nI j) + 1)), (0, .ref 0), (1, .int (nI k)), (2, .int (b2i (duB (thr r c k) (MA 23 k) j)))]) (st1 := []) (w1 := (WM MA MS Mh v)) (by decide +kernel) rfl ?_
        refine M.lsub [1, 2, 3, 0] (lo1 := [(0, .ref 0), (1, .int (nI k)), (2, .int (b2i (duB (thr r c k) (MA 23 k) j))), (3, .int ((nI j) + 1))]) rfl ?_
        rw [nI_1]
        have e := ih (j + 1) (by omega)
        rw [du_skip z19] at e
        exact e
      · refine M.blk (is := [(.iload_n 2, 2, 0, 0)]) (pc1 := 23) (lo1 := [(0, .ref 0), (1, .int (nI k)), (2, .int (b2i (duB (thr r c k) (MA 23 k) j))), (3, .int (nI j))]) (st1 := [.int (b2i (duB (thr r c k) (MA 23 k) j))]) (w1 := (WM MA MS Mh v)) (by decide +kernel) rfl ?_
        refine M.if_eq (off := 36) (tgt := 59) (nx := 26) (by decide +kernel) (fun z23 => ?_) (fun z23 => ?_)
        · refine M.blk (is := [(.iconst 0, 0, 0, 0), (.istore_n 2, 2, 0, 0), (.iinc 3 1, 3, 0, 1), (.goto (-60), 4, 0, 0)]) (pc1 := 4) (lo1 := [(3, .int ((nI j) + 1)), (2, .int 0), (0, .ref 0), (1, .int (nI k))]) (st1 := []) (w1 := (WM MA MS Mh v)) (by decide +kernel) rfl ?_
          refine M.lsub [2, 3, 1, 0] (lo1 := [(0, .ref 0), (1, .int (nI k)), (2, .int 0), (3, .int ((nI j) + 1))]) rfl ?_
          rw [nI_1]
          have e := ih (j + 1) (by omega)
          rw [du_go (by omega) z19, Bool.eq_false_iff.mpr (b2i_f z23)] at e
          exact e
        · refine M.blk (is := [(.aload_n 0, 0, 0, 0), (.getfield 26, 4, 23, 0), (.iload_n 1, 1, 0, 0)]) (pc1 := 31) (lo1 := [(0, .ref 0), (1, .int (nI k)), (2, .int (b2i (duB (thr r c k) (MA 23 k) j))), (3, .int (nI j))]) (st1 := [.int (nI k), .ref 3]) (w1 := (WM MA MS Mh v)) (by decide +kernel) rfl ?_
          refine M.ald (n := 25) (f := MA 23) (j := k) (nx := 32) (by decide +kernel) rfl rfl (by omega) (by decide) ?_
          refine M.blk (is := [(.iload_n 3, 3, 0, 0)]) (pc1 := 33) (lo1 := [(0, .ref 0), (1, .int (nI k)), (2, .int (b2i (duB (thr r c k) (MA 23 k) j))), (3, .int (nI j))]) (st1 := [.int (nI j), .int ((MA 23) k)]) (w1 := (WM MA MS Mh v)) (by decide +kernel) rfl ?_
          refine M.callSi (as := [.int ((MA 23) k), .int (nI j)]) (st := []) (nx := 36) okX4_has lkX4_119 (s_hasM (WM MA MS Mh v) ((MA 23) k) (nI j)) (by decide +kernel) (by decide) rfl (Nat.le_of_ble_eq_true rfl) ?_
          rw [hb_iff _ (show j < 32 by omega)]
          refine M.if_eq (off := 23) (tgt := 59) (nx := 39) (by decide +kernel) (fun z36 => ?_) (fun z36 => ?_)
          · refine M.blk (is := [(.iconst 0, 0, 0, 0), (.istore_n 2, 2, 0, 0), (.iinc 3 1, 3, 0, 1), (.goto (-60), 4, 0, 0)]) (pc1 := 4) (lo1 := [(3, .int ((nI j) + 1)), (2, .int 0), (0, .ref 0), (1, .int (nI k))]) (st1 := []) (w1 := (WM MA MS Mh v)) (by decide +kernel) rfl ?_
            refine M.lsub [2, 3, 1, 0] (lo1 := [(0, .ref 0), (1, .int (nI k)), (2, .int 0), (3, .int ((nI j) + 1))]) rfl ?_
            rw [nI_1]
            have e := ih (j + 1) (by omega)
            rw [du_go (by omega) z19, Bool.eq_false_iff.mpr (b2i_f z36), b2i_t z23] at e
            exact e
          · refine M.blk (is := [(.aload_n 0, 0, 0, 0), (.getfield 26, 4, 23, 0), (.iload_n 1, 1, 0, 0)]) (pc1 := 44) (lo1 := [(0, .ref 0), (1, .int (nI k)), (2, .int (b2i (duB (thr r c k) (MA 23 k) j))), (3, .int (nI j))]) (st1 := [.int (nI k), .ref 3]) (w1 := (WM MA MS Mh v)) (by decide +kernel) rfl ?_
            refine M.ald (n := 25) (f := MA 23) (j := k) (nx := 45) (by decide +kernel) rfl rfl (by omega) (by decide) ?_
            refine M.blk (is := [(.bipush 16, 0, 0, 16), (.iload_n 3, 3, 0, 0), (.iadd, 0, 0, 0)]) (pc1 := 49) (lo1 := [(0, .ref 0), (1, .int (nI k)), (2, .int (b2i (duB (thr r c k) (MA 23 k) j))), (3, .int (nI j))]) (st1 := [.int (16 + (nI j)), .int ((MA 23) k)]) (w1 := (WM MA MS Mh v)) (by decide +kernel) rfl ?_
            rw [show (16 : Int32) + nI j = nI (16 + j) by rw [show (16 : Int32) = nI 16 from rfl, nI_add]]
            refine M.callSi (as := [.int ((MA 23) k), .int (nI (16 + j))]) (st := []) (nx := 52) okX4_has lkX4_119 (s_hasM (WM MA MS Mh v) ((MA 23) k) (nI (16 + j))) (by decide +kernel) (by decide) rfl (Nat.le_of_ble_eq_true rfl) ?_
            rw [hb_iff _ (show 16 + j < 32 by omega)]
            refine M.if_eq (off := 7) (tgt := 59) (nx := 55) (by decide +kernel) (fun z52 => ?_) (fun z52 => ?_)
            · refine M.blk (is := [(.iconst 0, 0, 0, 0), (.istore_n 2, 2, 0, 0), (.iinc 3 1, 3, 0, 1), (.goto (-60), 4, 0, 0)]) (pc1 := 4) (lo1 := [(3, .int ((nI j) + 1)), (2, .int 0), (0, .ref 0), (1, .int (nI k))]) (st1 := []) (w1 := (WM MA MS Mh v)) (by decide +kernel) rfl ?_
              refine M.lsub [2, 3, 1, 0] (lo1 := [(0, .ref 0), (1, .int (nI k)), (2, .int 0), (3, .int ((nI j) + 1))]) rfl ?_
              rw [nI_1]
              have e := ih (j + 1) (by omega)
              rw [du_go (by omega) z19, Bool.eq_false_iff.mpr (b2i_f z52), b2i_t z36, b2i_t z23] at e
              exact e
            · refine M.blk (is := [(.iconst 1, 0, 0, 1), (.goto 4, 60, 0, 0), (.istore_n 2, 2, 0, 0), (.iinc 3 1, 3, 0, 1), (.goto (-60), 4, 0, 0)]) (pc1 := 4) (lo1 := [(3, .int ((nI j) + 1)), (2, .int 1), (0, .ref 0), (1, .int (nI k))]) (st1 := []) (w1 := (WM MA MS Mh v)) (by decide +kernel) rfl ?_
              refine M.lsub [2, 3, 1, 0] (lo1 := [(0, .ref 0), (1, .int (nI k)), (2, .int 1), (3, .int ((nI j) + 1))]) rfl ?_
              rw [nI_1]
              have e := ih (j + 1) (by omega)
              rw [du_go (by omega) z19, b2i_t z52, b2i_t z36, b2i_t z23] at e
              exact e
  show g 0 0 0 [(0, .ref 0), (1, .int (nI k))] [] (WM MA MS Mh v)
  refine M.blk (is := [(.iconst 1, 0, 0, 1), (.istore_n 2, 2, 0, 0), (.iconst 0, 0, 0, 0), (.istore_n 3, 3, 0, 0)]) (pc1 := 4) (lo1 := [(3, .int 0), (2, .int 1), (0, .ref 0), (1, .int (nI k))]) (st1 := []) (w1 := (WM MA MS Mh v)) (by decide +kernel) rfl ?_
  refine M.lsub [2, 3, 1, 0] (lo1 := [(0, .ref 0), (1, .int (nI k)), (2, .int 1), (3, .int 0)]) rfl ?_
  have e := lp 16 0 (by omega)
  rw [show duB (thr r c k) (MA 23 k) 0 = true by unfold duB; exact decide_eq_true (by rw [show dueA (thr r c k) 0 = 0 from rfl]; exact Int32.and_zero)] at e
  exact e
theorem m_wholes {r c f h t : Nat} (hgeo : GeoOk r c f h t) (hms : MSok r c f h t MS) {sl : Nat} (hsl : sl ≤ 64) (h2 : MS 2 = nI sl) (hC : ∀ j, j < sl → sgnB (MA 3 j) = true) (h22 : MS 22 = 0) : CC 8 mX4_wholes 0 0 [.ref 0] (WM MA MS Mh v) (fun r0 w1 => ∃ A MT, w1 = (WM (va_up MA 23 A) MT Mh v) ∧ KP MS MT ∧ r0 = some (.int (nI (whC r c (MA 3) sl (r * c))))) := by
  have h25 : r * c ≤ 25 := Nat.mul_le_mul hgeo.1.2 hgeo.2.1.2
  have h9a : 9 ≤ r * c := Nat.mul_le_mul hgeo.1.1 hgeo.2.1.1
  refine CC.of okX4_wholes.1 (Nat.le_of_ble_eq_true rfl) (fun g M => ?_)
  have lp : ∀ (A MT : Nat → Int32), KP MS MT → SN r c (MA 3) A sl → ∀ m j, j + m = r * c → g 0 0 8 [(0, .ref 0), (1, .int (nI (whC r c (MA 3) sl j))), (2, .int (nI j))] [] (WM (va_up MA 23 A) MT Mh v) := by
    intro A MT hK hA m
    have hms2 := kp_ms hK hms
    induction m with
    | zero =>
      intro j hj
      have ej : r * c = j := by omega
      rw [← ej]
      refine M.blk (is := [(.iload_n 2, 2, 0, 0), (.aload_n 0, 0, 0, 0)]) (pc1 := 10) (lo1 := [(0, .ref 0), (1, .int (nI (whC r c (MA 3) sl (r * c)))), (2, .int (nI (r * c)))]) (st1 := [.ref 0, .int (nI (r * c))]) (w1 := (WM (va_up MA 23 A) MT Mh v)) (by decide +kernel) rfl ?_
      refine M.callVi (as := []) (st := [.int (nI (r * c))]) (nx := 13) okX4_cells lkX4_57 (m_cells (MS := MT) hms2.1 hms2.2.1) (by decide +kernel) (by decide) rfl (Nat.le_of_ble_eq_true rfl) rfl (by decide) ?_
      refine M.icmp_ge (off := 25) (tgt := 38) (nx := 16) (by decide +kernel) (fun z13 => ?_) (fun z13 => by exfalso; exact z13 (nI_le (Nat.le_refl _) (by omega)))
      refine M.blk (is := [(.iload_n 1, 1, 0, 0)]) (pc1 := 39) (lo1 := [(0, .ref 0), (1, .int (nI (whC r c (MA 3) sl (r * c)))), (2, .int (nI (r * c)))]) (st1 := [.int (nI (whC r c (MA 3) sl (r * c)))]) (w1 := (WM (va_up MA 23 A) MT Mh v)) (by decide +kernel) rfl ?_
      exact M.reti (nx := 40) (by decide +kernel) ⟨A, MT, rfl, hK, rfl⟩
    | succ m ih =>
      intro j hj
      have hjn : j < r * c := by omega
      refine M.blk (is := [(.iload_n 2, 2, 0, 0), (.aload_n 0, 0, 0, 0)]) (pc1 := 10) (lo1 := [(0, .ref 0), (1, .int (nI (whC r c (MA 3) sl j))), (2, .int (nI j))]) (st1 := [.ref 0, .int (nI j)]) (w1 := (WM (va_up MA 23 A) MT Mh v)) (by decide +kernel) rfl ?_
      refine M.callVi (as := []) (st := [.int (nI j)]) (nx := 13) okX4_cells lkX4_57 (m_cells (MS := MT) hms2.1 hms2.2.1) (by decide +kernel) (by decide) rfl (Nat.le_of_ble_eq_true rfl) rfl (by decide) ?_
      refine M.icmp_ge (off := 25) (tgt := 38) (nx := 16) (by decide +kernel) (fun z13 => by exfalso; exact nI_ge hjn (by omega) z13) (fun z13 => ?_)
      refine M.blk (is := [(.iload_n 1, 1, 0, 0), (.aload_n 0, 0, 0, 0), (.iload_n 2, 2, 0, 0)]) (pc1 := 19) (lo1 := [(0, .ref 0), (1, .int (nI (whC r c (MA 3) sl j))), (2, .int (nI j))]) (st1 := [.int (nI j), .ref 0, .int (nI (whC r c (MA 3) sl j))]) (w1 := (WM (va_up MA 23 A) MT Mh v)) (by decide +kernel) rfl ?_
      refine M.callVi (as := [.int (nI j)]) (st := [.int (nI (whC r c (MA 3) sl j))]) (nx := 22) okX4_isWhole lkX4_196 (m_isWhole (MA := (va_up MA 23 A)) (MS := MT) hgeo hms2 hjn) (by decide +kernel) (by decide) rfl (Nat.le_of_ble_eq_true rfl) rfl (by decide) ?_
      have j22 : ∀ b22 : Int32, b22 = (if b2i (duB (thr r c j) (A j) 16) = 0 then (0 : Int32) else 1) → g 0 0 30 [(0, .ref 0), (1, .int (nI (whC r c (MA 3) sl j))), (2, .int (nI j))] [.int b22, .int (nI (whC r c (MA 3) sl j))] (WM (va_up MA 23 A) MT Mh v) := by
        intro b22 hb22
        refine M.blk (is := [(.iadd, 0, 0, 0), (.istore_n 1, 1, 0, 0), (.iinc 2 1, 2, 0, 1), (.goto (-27), 8, 0, 0)]) (pc1 := 8) (lo1 := [(2, .int ((nI j) + 1)), (1, .int ((nI (whC r c (MA 3) sl j)) + b22)), (0, .ref 0)]) (st1 := []) (w1 := (WM (va_up MA 23 A) MT Mh v)) (by decide +kernel) rfl ?_
        refine M.lsub [2, 1, 0] (lo1 := [(0, .ref 0), (1, .int ((nI (whC r c (MA 3) sl j)) + b22)), (2, .int ((nI j) + 1))]) rfl ?_
        rw [nI_1]
        have eo : nI (whC r c (MA 3) sl j) + b22 = nI (whC r c (MA 3) sl (j + 1)) := by
          rw [hb22, hA j hjn]
          show _ = nI (whC r c (MA 3) sl j + (if (smS 3 0 (tauG r c j) (MA 3) sl).2.2.1 &&& dueA (thr r c j) 16 = dueA (thr r c j) 16 then 1 else 0))
          unfold duB
          by_cases e : (smS 3 0 (tauG r c j) (MA 3) sl).2.2.1 &&& dueA (thr r c j) 16 = dueA (thr r c j) 16
          · rw [decide_eq_true e, if_pos e, if_neg (by decide), nI_1]
          · rw [decide_eq_false e, if_neg e, if_pos (by decide), show (0 : Int32) = nI 0 from rfl, nI_add]
        rw [eo]
        exact ih (j + 1) (by omega)
      refine M.if_eq (off := 7) (tgt := 29) (nx := 25) (by decide +kernel) (fun z22 => ?_) (fun z22 => ?_)
      · refine M.blk (is := [(.iconst 0, 0, 0, 0)]) (pc1 := 30) (lo1 := [(0, .ref 0), (1, .int (nI (whC r c (MA 3) sl j))), (2, .int (nI j))]) (st1 := [.int 0, .int (nI (whC r c (MA 3) sl j))]) (w1 := (WM (va_up MA 23 A) MT Mh v)) (by decide +kernel) rfl ?_
        exact j22 _ (if_pos z22).symm
      · refine M.blk (is := [(.iconst 1, 0, 0, 1), (.goto 4, 30, 0, 0)]) (pc1 := 30) (lo1 := [(0, .ref 0), (1, .int (nI (whC r c (MA 3) sl j))), (2, .int (nI j))]) (st1 := [.int 1, .int (nI (whC r c (MA 3) sl j))]) (w1 := (WM (va_up MA 23 A) MT Mh v)) (by decide +kernel) rfl ?_
        exact j22 _ (if_neg z22).symm
  show g 0 0 0 [(0, .ref 0)] [] (WM MA MS Mh v)
  refine M.blk (is := [(.aload_n 0, 0, 0, 0)]) (pc1 := 1) (lo1 := [(0, .ref 0)]) (st1 := [.ref 0]) (w1 := (WM MA MS Mh v)) (by decide +kernel) rfl ?_
  refine M.callV (as := []) (st := []) (nx := 4) okX4_layAllSeen lkX4_190 (m_layAllSeen hgeo hms hsl h2 hC h22) (by decide +kernel) (by decide) rfl (Nat.le_of_ble_eq_true rfl) rfl (by decide) ⟨by decide, by decide⟩ ?_
  intro r0 w1 hq
  obtain ⟨A, MT, rfl, hK, hA, rfl⟩ := hq
  show g 0 0 4 [(0, .ref 0)] [] (WM (va_up MA 23 A) MT Mh v)
  refine M.blk (is := [(.iconst 0, 0, 0, 0), (.istore_n 1, 1, 0, 0), (.iconst 0, 0, 0, 0), (.istore_n 2, 2, 0, 0)]) (pc1 := 8) (lo1 := [(2, .int 0), (1, .int 0), (0, .ref 0)]) (st1 := []) (w1 := (WM (va_up MA 23 A) MT Mh v)) (by decide +kernel) rfl ?_
  refine M.lsub [2, 1, 0] (lo1 := [(0, .ref 0), (1, .int 0), (2, .int 0)]) rfl ?_
  exact lp A MT hK hA (r * c) 0 (by omega)
theorem m_howMany {r c f h t : Nat} (hgeo : GeoOk r c f h t) (hms : MSok r c f h t MS) {sl : Nat} (hsl : sl ≤ 64) (h2 : MS 2 = nI sl) (hC : ∀ j, j < sl → sgnB (MA 3 j) = true) {pl : Nat} (h0 : MS 0 = nI pl) (h22 : MS 22 = 0) (y : Int32) : CC 9 mX4_howMany 0 0 [.ref 0, .int y] (WM MA MS Mh v) (fun r0 w1 => ∃ A MT, w1 = (WM (va_up MA 23 A) MT Mh v) ∧ KP MS MT ∧ r0 = some (.int (cntF pl sl r c f h t (MA 3) y))) := by
  have h25 : r * c ≤ 25 := Nat.mul_le_mul hgeo.1.2 hgeo.2.1.2
  have h9a : 9 ≤ r * c := Nat.mul_le_mul hgeo.1.1 hgeo.2.1.1
  have hcy : ∀ {x : Int32}, x = cntF pl sl r c f h t (MA 3) y → (∃ A MT, (WM MA MS Mh v) = (WM (va_up MA 23 A) MT Mh v) ∧ KP MS MT ∧ some (Value.int x) = some (.int (cntF pl sl r c f h t (MA 3) y))) := fun e => ⟨MA 23, MS, by rw [va_up_id (f := MA) (k := 23) rfl], fun _ _ => rfl, by rw [e]⟩
  refine CC.of okX4_howMany.1 (Nat.le_of_ble_eq_true rfl) (fun g M => ?_)
  show g 0 0 0 [(0, .ref 0), (1, .int y)] [] (WM MA MS Mh v)
  refine M.blk (is := [(.iload_n 1, 1, 0, 0)]) (pc1 := 1) (lo1 := [(0, .ref 0), (1, .int y)]) (st1 := [.int y]) (w1 := (WM MA MS Mh v)) (by decide +kernel) rfl ?_
  refine M.tsw (dflt := 113) (a := 0) (b := 10) (offs := #[59, 64, 69, 74, 79, 84, 89, 94, 99, 99, 108]) (len := 59) (tg := [60, 65, 70, 75, 80, 85, 90, 95, 100, 100, 109]) (dt := 114) (by decide +kernel) (fun j t hj hx1 => ?_) (fun hx1 => ?_)
  · match j, hj, hx1 with
    | 0, hj, hx1 =>
      cases hj
      have hx1 : y = 0 := i32_of hx1 (by decide)
      subst hx1
      refine M.blk (is := [(.aload_n 0, 0, 0, 0), (.getfield 40, 4, 0, 0)]) (pc1 := 64) (lo1 := [(0, .ref 0), (1, .int 0)]) (st1 := [.int (MS 0)]) (w1 := (WM MA MS Mh v)) (by decide +kernel) rfl ?_
      exact M.reti (nx := 65) (by decide +kernel) (hcy (h0.trans (if_pos rfl).symm))
    | 1, hj, hx1 =>
      cases hj
      have hx1 : y = 1 := i32_of hx1 (by decide)
      subst hx1
      refine M.blk (is := [(.aload_n 0, 0, 0, 0), (.getfield 16, 4, 4, 0)]) (pc1 := 69) (lo1 := [(0, .ref 0), (1, .int 1)]) (st1 := [.int (MS 4)]) (w1 := (WM MA MS Mh v)) (by decide +kernel) rfl ?_
      exact M.reti (nx := 70) (by decide +kernel) (hcy (hms.1.trans ((if_neg (by decide)).trans (if_pos rfl)).symm))
    | 2, hj, hx1 =>
      cases hj
      have hx1 : y = 2 := i32_of hx1 (by decide)
      subst hx1
      refine M.blk (is := [(.aload_n 0, 0, 0, 0), (.getfield 20, 4, 5, 0)]) (pc1 := 74) (lo1 := [(0, .ref 0), (1, .int 2)]) (st1 := [.int (MS 5)]) (w1 := (WM MA MS Mh v)) (by decide +kernel) rfl ?_
      exact M.reti (nx := 75) (by decide +kernel) (hcy (hms.2.1.trans ((if_neg (by decide)).trans ((if_neg (by decide)).trans (if_pos rfl))).symm))
    | 3, hj, hx1 =>
      cases hj
      have hx1 : y = 3 := i32_of hx1 (by decide)
      subst hx1
      refine M.blk (is := [(.aload_n 0, 0, 0, 0), (.getfield 23, 4, 6, 0)]) (pc1 := 79) (lo1 := [(0, .ref 0), (1, .int 3)]) (st1 := [.int (MS 6)]) (w1 := (WM MA MS Mh v)) (by decide +kernel) rfl ?_
      exact M.reti (nx := 80) (by decide +kernel) (hcy (hms.2.2.1.trans ((if_neg (by decide)).trans ((if_neg (by decide)).trans ((if_neg (by decide)).trans (if_pos rfl)))).symm))
    | 4, hj, hx1 =>
      cases hj
      have hx1 : y = 4 := i32_of hx1 (by decide)
      subst hx1
      refine M.blk (is := [(.aload_n 0, 0, 0, 0), (.getfield 60, 4, 7, 0)]) (pc1 := 84) (lo1 := [(0, .ref 0), (1, .int 4)]) (st1 := [.int (MS 7)]) (w1 := (WM MA MS Mh v)) (by decide +kernel) rfl ?_
      exact M.reti (nx := 85) (by decide +kernel) (hcy (hms.2.2.2.1.trans ((if_neg (by decide)).trans ((if_neg (by decide)).trans ((if_neg (by decide)).trans ((if_neg (by decide)).trans (if_pos rfl))))).symm))
    | 5, hj, hx1 =>
      cases hj
      have hx1 : y = 5 := i32_of hx1 (by decide)
      subst hx1
      refine M.blk (is := [(.aload_n 0, 0, 0, 0), (.getfield 63, 4, 8, 0)]) (pc1 := 89) (lo1 := [(0, .ref 0), (1, .int 5)]) (st1 := [.int (MS 8)]) (w1 := (WM MA MS Mh v)) (by decide +kernel) rfl ?_
      exact M.reti (nx := 90) (by decide +kernel) (hcy (hms.2.2.2.2.trans ((if_neg (by decide)).trans ((if_neg (by decide)).trans ((if_neg (by decide)).trans ((if_neg (by decide)).trans ((if_neg (by decide)).trans (if_pos rfl)))))).symm))
    | 6, hj, hx1 =>
      cases hj
      have hx1 : y = 6 := i32_of hx1 (by decide)
      subst hx1
      refine M.blk (is := [(.aload_n 0, 0, 0, 0), (.getfield 51, 4, 2, 0)]) (pc1 := 94) (lo1 := [(0, .ref 0), (1, .int 6)]) (st1 := [.int (MS 2)]) (w1 := (WM MA MS Mh v)) (by decide +kernel) rfl ?_
      exact M.reti (nx := 95) (by decide +kernel) (hcy (h2.trans ((if_neg (by decide)).trans ((if_neg (by decide)).trans ((if_neg (by decide)).trans ((if_neg (by decide)).trans ((if_neg (by decide)).trans ((if_neg (by decide)).trans (if_pos rfl))))))).symm))
    | 7, hj, hx1 =>
      cases hj
      have hx1 : y = 7 := i32_of hx1 (by decide)
      subst hx1
      refine M.blk (is := [(.aload_n 0, 0, 0, 0)]) (pc1 := 96) (lo1 := [(0, .ref 0), (1, .int 7)]) (st1 := [.ref 0]) (w1 := (WM MA MS Mh v)) (by decide +kernel) rfl ?_
      refine M.callVi (as := []) (st := []) (nx := 99) okX4_ops lkX4_193 (m_ops hgeo hms hsl h2 hC) (by decide +kernel) (by decide) rfl (Nat.le_of_ble_eq_true rfl) rfl (by decide) ?_
      exact M.reti (nx := 100) (by decide +kernel) (hcy ((if_neg (by decide)).trans ((if_neg (by decide)).trans ((if_neg (by decide)).trans ((if_neg (by decide)).trans ((if_neg (by decide)).trans ((if_neg (by decide)).trans ((if_neg (by decide)).trans (if_pos rfl)))))))).symm)
    | 8, hj, hx1 =>
      cases hj
      have hx1 : y = 8 := i32_of hx1 (by decide)
      subst hx1
      refine M.blk (is := [(.aload_n 0, 0, 0, 0), (.iload_n 1, 1, 0, 0), (.bipush 8, 0, 0, 8), (.isub, 0, 0, 0)]) (pc1 := 105) (lo1 := [(0, .ref 0), (1, .int 8)]) (st1 := [.int 0, .ref 0]) (w1 := (WM MA MS Mh v)) (by decide +kernel) rfl ?_
      refine M.callVi (as := [.int 0]) (st := []) (nx := 108) okX4_byBound lkX4_199 (m_byBound hgeo hms hsl h2 hC 0) (by decide +kernel) (by decide) rfl (Nat.le_of_ble_eq_true rfl) rfl (by decide) ?_
      exact M.reti (nx := 109) (by decide +kernel) (hcy (by rw [if_pos rfl]; exact ((if_neg (by decide)).trans ((if_neg (by decide)).trans ((if_neg (by decide)).trans ((if_neg (by decide)).trans ((if_neg (by decide)).trans ((if_neg (by decide)).trans ((if_neg (by decide)).trans ((if_neg (by decide)).trans (if_pos rfl))))))))).symm))
    | 9, hj, hx1 =>
      cases hj
      have hx1 : y = 9 := i32_of hx1 (by decide)
      subst hx1
      refine M.blk (is := [(.aload_n 0, 0, 0, 0), (.iload_n 1, 1, 0, 0), (.bipush 8, 0, 0, 8), (.isub, 0, 0, 0)]) (pc1 := 105) (lo1 := [(0, .ref 0), (1, .int 9)]) (st1 := [.int 1, .ref 0]) (w1 := (WM MA MS Mh v)) (by decide +kernel) rfl ?_
      refine M.callVi (as := [.int 1]) (st := []) (nx := 108) okX4_byBound lkX4_199 (m_byBound hgeo hms hsl h2 hC 1) (by decide +kernel) (by decide) rfl (Nat.le_of_ble_eq_true rfl) rfl (by decide) ?_
      exact M.reti (nx := 109) (by decide +kernel) (hcy (by rw [if_neg (by decide)]; exact ((if_neg (by decide)).trans ((if_neg (by decide)).trans ((if_neg (by decide)).trans ((if_neg (by decide)).trans ((if_neg (by decide)).trans ((if_neg (by decide)).trans ((if_neg (by decide)).trans ((if_neg (by decide)).trans ((if_neg (by decide)).trans (if_pos rfl)))))))))).symm))
    | 10, hj, hx1 =>
      cases hj
      have hx1 : y = 10 := i32_of hx1 (by decide)
      subst hx1
      refine M.blk (is := [(.aload_n 0, 0, 0, 0)]) (pc1 := 110) (lo1 := [(0, .ref 0), (1, .int 10)]) (st1 := [.ref 0]) (w1 := (WM MA MS Mh v)) (by decide +kernel) rfl ?_
      refine M.callV (as := []) (st := []) (nx := 113) okX4_wholes lkX4_202 (m_wholes hgeo hms hsl h2 hC h22) (by decide +kernel) (by decide) rfl (Nat.le_of_ble_eq_true rfl) rfl (by decide) ⟨by decide, by decide⟩ ?_
      intro r0 w1 hq
      obtain ⟨A, MT, rfl, hK, rfl⟩ := hq
      show g 0 0 113 [(0, .ref 0), (1, .int 10)] [.int (nI (whC r c (MA 3) sl (r * c)))] (WM (va_up MA 23 A) MT Mh v)
      exact M.reti (nx := 114) (by decide +kernel) ⟨A, MT, rfl, hK, congrArg (fun x => some (Value.int x)) ((if_neg (by decide)).trans ((if_neg (by decide)).trans ((if_neg (by decide)).trans ((if_neg (by decide)).trans ((if_neg (by decide)).trans ((if_neg (by decide)).trans ((if_neg (by decide)).trans ((if_neg (by decide)).trans ((if_neg (by decide)).trans ((if_neg (by decide)).trans (if_pos rfl))))))))))).symm⟩
    | j + 11, hj, _ => exact absurd hj (by simp)
  · refine M.blk (is := [(.sipush (-1002), 0, 0, (-1002))]) (pc1 := 117) (lo1 := [(0, .ref 0), (1, .int y)]) (st1 := [.int (-1002)]) (w1 := (WM MA MS Mh v)) (by decide +kernel) rfl ?_
    exact M.reti (nx := 118) (by decide +kernel) (hcy (cnt_out hx1).symm)
theorem m_count {r c f h t : Nat} (hgeo : GeoOk r c f h t) (hms : MSok r c f h t MS) {sl : Nat} (hsl : sl ≤ 64) (h2 : MS 2 = nI sl) (hC : ∀ j, j < sl → sgnB (MA 3 j) = true) {pl : Nat} (h0 : MS 0 = nI pl) (h22 : MS 22 = 0) (y : Int32) : CC 10 mX4_count 0 0 [.ref 0, .int y] (WM MA MS Mh v) (fun r0 w1 => ∃ A MT, w1 = (WM (va_up MA 23 A) MT Mh v) ∧ KP MS MT ∧ r0 = some (.int (cntF pl sl r c f h t (MA 3) y))) := by
  have h25 : r * c ≤ 25 := Nat.mul_le_mul hgeo.1.2 hgeo.2.1.2
  have h9a : 9 ≤ r * c := Nat.mul_le_mul hgeo.1.1 hgeo.2.1.1
  refine CC.of okX4_count.1 (Nat.le_of_ble_eq_true rfl) (fun g M => ?_)
  show g 0 0 0 [(0, .ref 0), (1, .int y)] [] (WM MA MS Mh v)
  refine M.blk (is := [(.aload_n 0, 0, 0, 0), (.iload_n 1, 1, 0, 0)]) (pc1 := 2) (lo1 := [(0, .ref 0), (1, .int y)]) (st1 := [.int y, .ref 0]) (w1 := (WM MA MS Mh v)) (by decide +kernel) rfl ?_
  refine M.callV (as := [.int y]) (st := []) (nx := 5) okX4_howMany lkX4_205 (m_howMany hgeo hms hsl h2 hC h0 h22 y) (by decide +kernel) (by decide) rfl (Nat.le_of_ble_eq_true rfl) rfl (by decide) ⟨by decide, by decide⟩ ?_
  intro r0 w1 hq
  obtain ⟨A, MT, rfl, hK, rfl⟩ := hq
  show g 0 0 5 [(0, .ref 0), (1, .int y)] [.int (cntF pl sl r c f h t (MA 3) y)] (WM (va_up MA 23 A) MT Mh v)
  exact M.reti (nx := 6) (by decide +kernel) ⟨A, MT, rfl, hK, rfl⟩
theorem m_mix (x : Int64) : CC 0 mX4_mix 0 0 [.ref 0, .long x] (WM MA MS Mh v) (Rv (WM MA MS (31 * Mh + x) v)) := by
  refine CC.of okX4_mix.1 (Nat.le_of_ble_eq_true rfl) (fun g M => ?_)
  show g 0 0 0 [(0, .ref 0), (1, .long x)] [] (WM MA MS Mh v)
  refine M.blk (is := [(.aload_n 0, 0, 0, 0)]) (pc1 := 1) (lo1 := [(0, .ref 0), (1, .long x)]) (st1 := [.ref 0]) (w1 := (WM MA MS Mh v)) (by decide +kernel) rfl ?_
  refine M.ldl (v := 31) (idx := 208) (nx := 4) (by decide +kernel) (lw_in 791 (by decide +kernel) (by decide +kernel)) ?_
  refine M.blk (is := [(.aload_n 0, 0, 0, 0), (.getfield 210, 4, 26, 0), (.lmul, 0, 0, 0), (.lload_n 1, 1, 0, 0), (.ladd, 0, 0, 0)]) (pc1 := 11) (lo1 := [(0, .ref 0), (1, .long x)]) (st1 := [.long ((31 * Mh) + x), .ref 0]) (w1 := (WM MA MS Mh v)) (by decide +kernel) rfl ?_
  refine M.putl (idx := 210) (a := 4) (b := 26) (nx := 14) (by decide +kernel) rfl (Nat.le_of_ble_eq_true rfl) ?_
  show g 0 0 14 [(0, .ref 0), (1, .long x)] [] (WM MA MS ((31 * Mh) + x) v)
  exact M.retv (nx := 15) (by decide +kernel) ⟨rfl, rfl⟩
end MNINE
