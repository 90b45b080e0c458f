section MFOUR
variable {MA : Nat → Nat → Int32} {MS : Nat → Int32} {Mh : Int64} {v : List Cl}
def hldN (r c k κ p : Nat) (B : Int32) : Int32 := if κ = 0 ∧ patN r c B k = ptP κ p then putI B k (nI (p % 2)) else B
def clrB (pat d : Nat) : Nat := pat - pat / 2 ^ d % 2 * 2 ^ d
theorem clr_ok : ∀ (a : Fin 16) (d : Fin 4), nI a.val &&& (((1 : Int32) <<< (nI d.val &&& 31)) ^^^ (-1)) = nI (clrB a.val d.val) := by decide +kernel
theorem ptP_16 {κ p : Nat} (hp : p < ptsN κ) (h3 : κ < 3) : ptP κ p < 16 := by
  unfold ptP
  rcases (show κ = 0 ∨ κ = 1 ∨ κ = 2 by omega) with rfl | rfl | rfl
  · have : p < 32 := hp
    rw [if_neg (by decide)]; omega
  · have : p < 32 := hp
    rw [if_neg (by decide)]; omega
  · have : p < 128 := hp
    rw [if_pos rfl]
    exact lf_w ⟨p / 2 % 8, by omega⟩ ⟨p / 32, by omega⟩
def wrtN (r c k κ p m v : Nat) (B : Int32) : Int32 := if κ = 1 ∧ m = k ∧ ¬ v = bN B m ∧ bN B m = p % 2 ∧ patN r c B k = ptP κ p then B
  else hldN r c k κ p (if (κ = 2 ∧ some m = nbO r c k (p / 32) ∧ ¬ v = bN B m ∧ v = p / 16 % 2) ∧ clrB (patN r c (putI B m (nI v)) k) (p / 32) = ptP κ p ∧ bN (putI B m (nI v)) k = p % 2 then putI (putI B m (nI v)) k (nI (1 - p % 2)) else putI B m (nI v))
theorem m_put (k : Nat) (x : Int32) : CC 0 mX4_put 0 0 [.ref 0, .int (nI k), .int x] (WM MA MS Mh v) (Rv (WM MA (upd MS 9 (putI (MS 9) k x)) Mh v)) := by
  refine CC.of okX4_put.1 (Nat.le_of_ble_eq_true rfl) (fun g M => ?_)
  show g 0 0 0 [(0, .ref 0), (1, .int (nI k)), (2, .int x)] [] (WM MA MS Mh v)
  refine M.blk (is := [(.aload_n 0, 0, 0, 0), (.iload_n 2, 2, 0, 0), (.iconst 1, 0, 0, 1)]) (pc1 := 3) (lo1 := [(0, .ref 0), (1, .int (nI k)), (2, .int x)]) (st1 := [.int 1, .int x, .ref 0]) (w1 := (WM MA MS Mh v)) (by decide +kernel) rfl ?_
  have j3 : ∀ b3 : Int32, b3 = (if ¬ x = 1 then ((MS 9) &&& (((1 : Int32) <<< ((nI k) &&& 31)) ^^^ (-1)) : Int32) else (MS 9) ||| ((1 : Int32) <<< ((nI k) &&& 31))) → g 0 0 27 [(0, .ref 0), (1, .int (nI k)), (2, .int x)] [.int b3, .ref 0] (WM MA MS Mh v) := by
    intro b3 hb3
    refine M.blk (is := [(.putfield 92, 4, 9, 0)]) (pc1 := 30) (lo1 := [(0, .ref 0), (1, .int (nI k)), (2, .int x)]) (st1 := []) (w1 := (WM MA (upd MS 9 b3) Mh v)) (by decide +kernel) rfl ?_
    exact M.retv (nx := 31) (by decide +kernel) ⟨rfl, by rw [hb3]; rfl⟩
  refine M.icmp_ne (off := 14) (tgt := 17) (nx := 6) (by decide +kernel) (fun z3 => ?_) (fun z3 => ?_)
  · refine M.blk (is := [(.aload_n 0, 0, 0, 0), (.getfield 92, 4, 9, 0), (.iconst 1, 0, 0, 1), (.iload_n 1, 1, 0, 0), (.ishl, 0, 0, 0), (.iconst (-1), 0, 0, (-1)), (.ixor, 0, 0, 0), (.iand, 0, 0, 0)]) (pc1 := 27) (lo1 := [(0, .ref 0), (1, .int (nI k)), (2, .int x)]) (st1 := [.int ((MS 9) &&& (((1 : Int32) <<< ((nI k) &&& 31)) ^^^ (-1))), .ref 0]) (w1 := (WM MA MS Mh v)) (by decide +kernel) rfl ?_
    exact j3 _ (if_pos z3).symm
  · refine M.blk (is := [(.aload_n 0, 0, 0, 0), (.getfield 92, 4, 9, 0), (.iconst 1, 0, 0, 1), (.iload_n 1, 1, 0, 0), (.ishl, 0, 0, 0), (.ior, 0, 0, 0), (.goto 13, 27, 0, 0)]) (pc1 := 27) (lo1 := [(0, .ref 0), (1, .int (nI k)), (2, .int x)]) (st1 := [.int ((MS 9) ||| ((1 : Int32) <<< ((nI k) &&& 31))), .ref 0]) (w1 := (WM MA MS Mh v)) (by decide +kernel) rfl ?_
    exact j3 _ (if_neg (fun h => h z3)).symm
theorem m_hold {r c f h t : Nat} (hgeo : GeoOk r c f h t) (hms : MSok r c f h t MS) {k κ p : Nat} (hfs : FS k κ p MS) (hk : k < r * c) (h3 : κ < 3) (hp : p < ptsN κ) : CC 3 mX4_hold 0 0 [.ref 0] (WM MA MS Mh v) (Rv (WM MA (upd MS 9 (hldN r c k κ p (MS 9))) Mh v)) := by
  have h25 : r * c ≤ 25 := Nat.mul_le_mul hgeo.1.2 hgeo.2.1.2
  have h9a : 9 ≤ r * c := Nat.mul_le_mul hgeo.1.1 hgeo.2.1.1
  have hpl := ptsN_le κ
  have hpt := ptP_16 hp h3
  refine CC.of okX4_hold.1 (Nat.le_of_ble_eq_true rfl) (fun g M => ?_)
  have hpa := patN_16 r c (MS 9) k
  show g 0 0 0 [(0, .ref 0)] [] (WM MA MS Mh v)
  refine M.blk (is := [(.aload_n 0, 0, 0, 0), (.getfield 95, 4, 11, 0), (.iconst (-1), 0, 0, (-1))]) (pc1 := 5) (lo1 := [(0, .ref 0)]) (st1 := [.int (-1), .int (MS 11)]) (w1 := (WM MA MS Mh v)) (by decide +kernel) rfl ?_
  refine M.icmp_eq (off := 37) (tgt := 42) (nx := 8) (by decide +kernel) (fun z5 => by exfalso; rw [hfs.1] at z5; exact oI_ne (by omega) z5) (fun z5 => ?_)
  refine M.blk (is := [(.aload_n 0, 0, 0, 0), (.getfield 98, 4, 12, 0)]) (pc1 := 12) (lo1 := [(0, .ref 0)]) (st1 := [.int (MS 12)]) (w1 := (WM MA MS Mh v)) (by decide +kernel) rfl ?_
  refine M.if_ne (off := 30) (tgt := 42) (nx := 15) (by decide +kernel) (fun z12 => ?_) (fun z12 => ?_)
  · exact M.retv (nx := 43) (by decide +kernel) ⟨rfl, by rw [hldN, if_neg (fun e => z12 (by rw [hfs.2.1, e.1]; rfl)), upd_id rfl]⟩
  · refine M.blk (is := [(.aload_n 0, 0, 0, 0), (.aload_n 0, 0, 0, 0), (.getfield 95, 4, 11, 0)]) (pc1 := 20) (lo1 := [(0, .ref 0)]) (st1 := [.int (MS 11), .ref 0]) (w1 := (WM MA MS Mh v)) (by decide +kernel) rfl ?_
    rw [hfs.1]
    refine M.callVi (as := [.int (nI k)]) (st := []) (nx := 23) okX4_patternOf lkX4_123 (m_patternOf (MS := MS) hgeo hms hk) (by decide +kernel) (by decide) rfl (Nat.le_of_ble_eq_true rfl) rfl (by decide) ?_
    refine M.blk (is := [(.aload_n 0, 0, 0, 0), (.getfield 110, 4, 15, 0)]) (pc1 := 27) (lo1 := [(0, .ref 0)]) (st1 := [.int (MS 15), .int (nI (patN r c (MS 9) k))]) (w1 := (WM MA MS Mh v)) (by decide +kernel) rfl ?_
    refine M.icmp_ne (off := 15) (tgt := 42) (nx := 30) (by decide +kernel) (fun z27 => ?_) (fun z27 => ?_)
    · exact M.retv (nx := 43) (by decide +kernel) ⟨rfl, by rw [hldN, if_neg (fun e => z27 (by rw [e.2, hfs.2.2.2.2.1])), upd_id rfl]⟩
    · refine M.blk (is := [(.aload_n 0, 0, 0, 0), (.aload_n 0, 0, 0, 0), (.getfield 95, 4, 11, 0), (.aload_n 0, 0, 0, 0), (.getfield 113, 4, 16, 0)]) (pc1 := 39) (lo1 := [(0, .ref 0)]) (st1 := [.int (MS 16), .int (MS 11), .ref 0]) (w1 := (WM MA MS Mh v)) (by decide +kernel) rfl ?_
      rw [hfs.1]
      refine M.callVv (as := [.int (nI k), .int (MS 16)]) (st := []) (nx := 42) okX4_put lkX4_126 (m_put (MS := MS) (k) (MS 16)) (by decide +kernel) (by decide) rfl (Nat.le_of_ble_eq_true rfl) rfl (by decide) ?_
      show g 0 0 42 [(0, .ref 0)] [] (WM MA (upd MS 9 (putI (MS 9) k (MS 16))) Mh v)
      exact M.retv (nx := 43) (by decide +kernel) ⟨rfl, by rw [hldN, if_pos ⟨nI_inj (by omega) (by decide) (hfs.2.1.symm.trans z12), nI_inj (by omega) (by omega) (z27.trans hfs.2.2.2.2.1)⟩, hfs.2.2.2.2.2]⟩
theorem m_holdN (h11 : MS 11 = -1) : CC 3 mX4_hold 0 0 [.ref 0] (WM MA MS Mh v) (Rv (WM MA MS Mh v)) := by
  refine CC.of okX4_hold.1 (Nat.le_of_ble_eq_true rfl) (fun g M => ?_)
  show g 0 0 0 [(0, .ref 0)] [] (WM MA MS Mh v)
  refine M.blk (is := [(.aload_n 0, 0, 0, 0), (.getfield 95, 4, 11, 0), (.iconst (-1), 0, 0, (-1))]) (pc1 := 5) (lo1 := [(0, .ref 0)]) (st1 := [.int (-1), .int (MS 11)]) (w1 := (WM MA MS Mh v)) (by decide +kernel) rfl ?_
  refine M.icmp_eq (off := 37) (tgt := 42) (nx := 8) (by decide +kernel) (fun z5 => ?_) (fun z5 => by exfalso; exact z5 h11)
  exact M.retv (nx := 43) (by decide +kernel) ⟨rfl, rfl⟩
theorem b01 {P : Prop} [Decidable P] {b : Int32} (h : b = if P then (1 : Int32) else 0) (h0 : b = 0) : ¬ P := by
  intro hp
  rw [if_pos hp] at h
  rw [h] at h0
  exact absurd h0 (by decide)
theorem b11 {P : Prop} [Decidable P] {b : Int32} (h : b = if P then (1 : Int32) else 0) (h0 : ¬ b = 0) : P := by
  by_cases hp : P
  · exact hp
  · rw [if_neg hp] at h; exact absurd h h0
theorem m_write {r c f h t : Nat} (hgeo : GeoOk r c f h t) (hms : MSok r c f h t MS) {k κ p : Nat} (hfs : FS k κ p MS) (hk : k < r * c) (h3 : κ < 3) (hp : p < ptsN κ) {m z : Nat} (hm : m < r * c) (hz : z < 2) : CC 4 mX4_write 0 0 [.ref 0, .int (nI m), .int (nI z)] (WM MA MS Mh v) (Rv (WM MA (upd MS 9 (wrtN r c k κ p m z (MS 9))) Mh v)) := by
  have h25 : r * c ≤ 25 := Nat.mul_le_mul hgeo.1.2 hgeo.2.1.2
  have h9a : 9 ≤ r * c := Nat.mul_le_mul hgeo.1.1 hgeo.2.1.1
  have hpl := ptsN_le κ
  have hpt := ptP_16 hp h3
  refine CC.of okX4_write.1 (Nat.le_of_ble_eq_true rfl) (fun g M => ?_)
  have hpa := patN_16 r c (MS 9) k
  have hpa2 := patN_16 r c (putI (MS 9) m (nI z)) k
  have hb2 := bN_2 (MS 9) m
  have hb3 := bN_2 (putI (MS 9) m (nI z)) k
  obtain ⟨f11, f12, f13, f14, f15, f16⟩ := id hfs
  have eS : (MS 12 = 1 ∧ nI m = MS 11 ∧ ¬ nI z = nI (bN (MS 9) m) ∧ nI (bN (MS 9) m) = MS 16 ∧ nI (patN r c (MS 9) k) = MS 15) ↔ (κ = 1 ∧ m = k ∧ ¬ z = bN (MS 9) m ∧ bN (MS 9) m = p % 2 ∧ patN r c (MS 9) k = ptP κ p) := by
    rw [f11, f12, f15, f16, nI_eq (by omega) (by omega), nI_eq (by omega) (by omega), nI_eq (by omega) (by omega), nI_eq (by omega) (by omega), show ((nI κ = 1) ↔ κ = 1) from nI_eq (b := 1) (by omega) (by decide)]
  have eT : (MS 12 = 2 ∧ nI m = oI (nbO r c k (p / 32)) ∧ ¬ nI z = nI (bN (MS 9) m) ∧ nI z = MS 14) ↔ (κ = 2 ∧ some m = nbO r c k (p / 32) ∧ ¬ z = bN (MS 9) m ∧ z = p / 16 % 2) := by
    rw [f12, f14, nI_eq (by omega) (by omega), nI_eq (by omega) (by omega), show ((nI κ = 2) ↔ κ = 2) from nI_eq (b := 2) (by omega) (by decide)]
    have e2 : (nI m = oI (nbO r c k (p / 32))) ↔ some m = nbO r c k (p / 32) := by
      cases hn : nbO r c k (p / 32) with
      | none => exact ⟨fun h => absurd h (oI_ne (by omega)), fun h => by cases h⟩
      | some m2 =>
        have := nb_lt hk hn
        constructor
        · intro h; rw [nI_inj (by omega) (by omega) h]
        · intro h; cases h; rfl
    rw [e2]
  have j114 : ∀ b58 b114 : Int32, ¬ (MS 12 = 1 ∧ nI m = MS 11 ∧ ¬ nI z = nI (bN (MS 9) m) ∧ nI (bN (MS 9) m) = MS 16 ∧ nI (patN r c (MS 9) k) = MS 15) → b114 = (if MS 12 = 2 ∧ nI m = oI (nbO r c k (p / 32)) ∧ ¬ nI z = nI (bN (MS 9) m) ∧ nI z = MS 14 then (1 : Int32) else 0) → g 0 0 114 [(4, .int b58), (3, .int (nI (bN (MS 9) m))), (0, .ref 0), (1, .int (nI m)), (2, .int (nI z))] [.int b114] (WM MA (upd MS 9 (putI (MS 9) m (nI z))) Mh v) := by
    intro b58 b114 hns hb114
    refine M.blk (is := [(.istore 5, 5, 0, 0), (.iload 5, 5, 0, 0)]) (pc1 := 118) (lo1 := [(5, .int b114), (4, .int b58), (3, .int (nI (bN (MS 9) m))), (0, .ref 0), (1, .int (nI m)), (2, .int (nI z))]) (st1 := [.int b114]) (w1 := (WM MA (upd MS 9 (putI (MS 9) m (nI z))) Mh v)) (by decide +kernel) rfl ?_
    refine M.if_eq (off := 59) (tgt := 177) (nx := 121) (by decide +kernel) (fun z118 => ?_) (fun z118 => ?_)
    · refine M.blk (is := [(.aload_n 0, 0, 0, 0)]) (pc1 := 178) (lo1 := [(5, .int b114), (4, .int b58), (3, .int (nI (bN (MS 9) m))), (0, .ref 0), (1, .int (nI m)), (2, .int (nI z))]) (st1 := [.ref 0]) (w1 := (WM MA (upd MS 9 (putI (MS 9) m (nI z))) Mh v)) (by decide +kernel) rfl ?_
      refine M.callVv (as := []) (st := []) (nx := 181) okX4_hold lkX4_130 (m_hold (MS := (upd MS 9 (putI (MS 9) m (nI z)))) hgeo hms hfs hk h3 hp) (by decide +kernel) (by decide) rfl (Nat.le_of_ble_eq_true rfl) rfl (by decide) ?_
      show g 0 0 181 [(5, .int b114), (4, .int b58), (3, .int (nI (bN (MS 9) m))), (0, .ref 0), (1, .int (nI m)), (2, .int (nI z))] [] (WM MA (upd MS 9 (hldN r c k κ p (putI (MS 9) m (nI z)))) Mh v)
      exact M.retv (nx := 182) (by decide +kernel) ⟨rfl, by rw [wrtN, if_neg (fun e => hns (eS.mpr e)), if_neg (fun e => b01 hb114 z118 (eT.mpr e.1))]⟩
    · refine M.blk (is := [(.aload_n 0, 0, 0, 0), (.aload_n 0, 0, 0, 0), (.getfield 95, 4, 11, 0)]) (pc1 := 126) (lo1 := [(5, .int b114), (4, .int b58), (3, .int (nI (bN (MS 9) m))), (0, .ref 0), (1, .int (nI m)), (2, .int (nI z))]) (st1 := [.int (MS 11), .ref 0]) (w1 := (WM MA (upd MS 9 (putI (MS 9) m (nI z))) Mh v)) (by decide +kernel) rfl ?_
      rw [hfs.1]
      refine M.callVi (as := [.int (nI k)]) (st := []) (nx := 129) okX4_patternOf lkX4_123 (m_patternOf (MS := (upd MS 9 (putI (MS 9) m (nI z)))) hgeo hms hk) (by decide +kernel) (by decide) rfl (Nat.le_of_ble_eq_true rfl) rfl (by decide) ?_
      refine M.blk (is := [(.iconst 1, 0, 0, 1), (.aload_n 0, 0, 0, 0), (.getfield 101, 4, 13, 0)]) (pc1 := 134) (lo1 := [(5, .int b114), (4, .int b58), (3, .int (nI (bN (MS 9) m))), (0, .ref 0), (1, .int (nI m)), (2, .int (nI z))]) (st1 := [.int (MS 13), .int 1, .int (nI (patN r c (putI (MS 9) m (nI z)) k))]) (w1 := (WM MA (upd MS 9 (putI (MS 9) m (nI z))) Mh v)) (by decide +kernel) rfl ?_
      have h2 : κ = 2 := (eT.mp (b11 hb114 z118)).1
      have hp128 : p < 128 := by rw [h2] at hp; exact hp
      have hby : MS 13 = nI (p / 32) := by rw [f13, if_pos h2]
      rw [hby]
      refine M.blk (is := [(.ishl, 0, 0, 0), (.iconst (-1), 0, 0, (-1)), (.ixor, 0, 0, 0), (.iand, 0, 0, 0)]) (pc1 := 138) (lo1 := [(5, .int b114), (4, .int b58), (3, .int (nI (bN (MS 9) m))), (0, .ref 0), (1, .int (nI m)), (2, .int (nI z))]) (st1 := [.int ((nI (patN r c (putI (MS 9) m (nI z)) k)) &&& (((1 : Int32) <<< ((nI (p / 32)) &&& 31)) ^^^ (-1)))]) (w1 := (WM MA (upd MS 9 (putI (MS 9) m (nI z))) Mh v)) (by decide +kernel) rfl ?_
      rw [clr_ok ⟨patN r c (putI (MS 9) m (nI z)) k, hpa2⟩ ⟨p / 32, by omega⟩]
      refine M.blk (is := [(.aload_n 0, 0, 0, 0), (.getfield 110, 4, 15, 0)]) (pc1 := 142) (lo1 := [(5, .int b114), (4, .int b58), (3, .int (nI (bN (MS 9) m))), (0, .ref 0), (1, .int (nI m)), (2, .int (nI z))]) (st1 := [.int (MS 15), .int (nI (clrB (patN r c (putI (MS 9) m (nI z)) k) (p / 32)))]) (w1 := (WM MA (upd MS 9 (putI (MS 9) m (nI z))) Mh v)) (by decide +kernel) rfl ?_
      refine M.icmp_ne (off := 35) (tgt := 177) (nx := 145) (by decide +kernel) (fun z142 => ?_) (fun z142 => ?_)
      · refine M.blk (is := [(.aload_n 0, 0, 0, 0)]) (pc1 := 178) (lo1 := [(5, .int b114), (4, .int b58), (3, .int (nI (bN (MS 9) m))), (0, .ref 0), (1, .int (nI m)), (2, .int (nI z))]) (st1 := [.ref 0]) (w1 := (WM MA (upd MS 9 (putI (MS 9) m (nI z))) Mh v)) (by decide +kernel) rfl ?_
        refine M.callVv (as := []) (st := []) (nx := 181) okX4_hold lkX4_130 (m_hold (MS := (upd MS 9 (putI (MS 9) m (nI z)))) hgeo hms hfs hk h3 hp) (by decide +kernel) (by decide) rfl (Nat.le_of_ble_eq_true rfl) rfl (by decide) ?_
        show g 0 0 181 [(5, .int b114), (4, .int b58), (3, .int (nI (bN (MS 9) m))), (0, .ref 0), (1, .int (nI m)), (2, .int (nI z))] [] (WM MA (upd MS 9 (hldN r c k κ p (putI (MS 9) m (nI z)))) Mh v)
        exact M.retv (nx := 182) (by decide +kernel) ⟨rfl, by rw [wrtN, if_neg (fun e => hns (eS.mpr e)), if_neg (fun e => z142 (by rw [e.2.1, f15]))]⟩
      · refine M.blk (is := [(.aload_n 0, 0, 0, 0), (.getfield 92, 4, 9, 0), (.aload_n 0, 0, 0, 0), (.getfield 95, 4, 11, 0)]) (pc1 := 153) (lo1 := [(5, .int b114), (4, .int b58), (3, .int (nI (bN (MS 9) m))), (0, .ref 0), (1, .int (nI m)), (2, .int (nI z))]) (st1 := [.int (MS 11), .int (putI (MS 9) m (nI z))]) (w1 := (WM MA (upd MS 9 (putI (MS 9) m (nI z))) Mh v)) (by decide +kernel) rfl ?_
        rw [hfs.1]
        refine M.blk (is := [(.ishr, 0, 0, 0), (.iconst 1, 0, 0, 1), (.iand, 0, 0, 0)]) (pc1 := 156) (lo1 := [(5, .int b114), (4, .int b58), (3, .int (nI (bN (MS 9) m))), (0, .ref 0), (1, .int (nI m)), (2, .int (nI z))]) (st1 := [.int (((putI (MS 9) m (nI z)) >>> ((nI k) &&& 31)) &&& 1)]) (w1 := (WM MA (upd MS 9 (putI (MS 9) m (nI z))) Mh v)) (by decide +kernel) rfl ?_
        rw [bit_nI (putI (MS 9) m (nI z)) (show k < 32 by omega)]
        refine M.blk (is := [(.aload_n 0, 0, 0, 0), (.getfield 113, 4, 16, 0)]) (pc1 := 160) (lo1 := [(5, .int b114), (4, .int b58), (3, .int (nI (bN (MS 9) m))), (0, .ref 0), (1, .int (nI m)), (2, .int (nI z))]) (st1 := [.int (MS 16), .int (nI (bN (putI (MS 9) m (nI z)) k))]) (w1 := (WM MA (upd MS 9 (putI (MS 9) m (nI z))) Mh v)) (by decide +kernel) rfl ?_
        refine M.icmp_ne (off := 17) (tgt := 177) (nx := 163) (by decide +kernel) (fun z160 => ?_) (fun z160 => ?_)
        · refine M.blk (is := [(.aload_n 0, 0, 0, 0)]) (pc1 := 178) (lo1 := [(5, .int b114), (4, .int b58), (3, .int (nI (bN (MS 9) m))), (0, .ref 0), (1, .int (nI m)), (2, .int (nI z))]) (st1 := [.ref 0]) (w1 := (WM MA (upd MS 9 (putI (MS 9) m (nI z))) Mh v)) (by decide +kernel) rfl ?_
          refine M.callVv (as := []) (st := []) (nx := 181) okX4_hold lkX4_130 (m_hold (MS := (upd MS 9 (putI (MS 9) m (nI z)))) hgeo hms hfs hk h3 hp) (by decide +kernel) (by decide) rfl (Nat.le_of_ble_eq_true rfl) rfl (by decide) ?_
          show g 0 0 181 [(5, .int b114), (4, .int b58), (3, .int (nI (bN (MS 9) m))), (0, .ref 0), (1, .int (nI m)), (2, .int (nI z))] [] (WM MA (upd MS 9 (hldN r c k κ p (putI (MS 9) m (nI z)))) Mh v)
          exact M.retv (nx := 182) (by decide +kernel) ⟨rfl, by rw [wrtN, if_neg (fun e => hns (eS.mpr e)), if_neg (fun e => z160 (by rw [e.2.2, f16]))]⟩
        · refine M.blk (is := [(.aload_n 0, 0, 0, 0), (.aload_n 0, 0, 0, 0), (.getfield 95, 4, 11, 0)]) (pc1 := 168) (lo1 := [(5, .int b114), (4, .int b58), (3, .int (nI (bN (MS 9) m))), (0, .ref 0), (1, .int (nI m)), (2, .int (nI z))]) (st1 := [.int (MS 11), .ref 0]) (w1 := (WM MA (upd MS 9 (putI (MS 9) m (nI z))) Mh v)) (by decide +kernel) rfl ?_
          rw [f11]
          refine M.blk (is := [(.iconst 1, 0, 0, 1), (.aload_n 0, 0, 0, 0), (.getfield 113, 4, 16, 0), (.isub, 0, 0, 0)]) (pc1 := 174) (lo1 := [(5, .int b114), (4, .int b58), (3, .int (nI (bN (MS 9) m))), (0, .ref 0), (1, .int (nI m)), (2, .int (nI z))]) (st1 := [.int (1 - (MS 16)), .int (nI k), .ref 0]) (w1 := (WM MA (upd MS 9 (putI (MS 9) m (nI z))) Mh v)) (by decide +kernel) rfl ?_
          refine M.callVv (as := [.int (nI k), .int (1 - (MS 16))]) (st := []) (nx := 177) okX4_put lkX4_126 (m_put (MS := (upd MS 9 (putI (MS 9) m (nI z)))) (k) (1 - (MS 16))) (by decide +kernel) (by decide) rfl (Nat.le_of_ble_eq_true rfl) rfl (by decide) ?_
          show g 0 0 177 [(5, .int b114), (4, .int b58), (3, .int (nI (bN (MS 9) m))), (0, .ref 0), (1, .int (nI m)), (2, .int (nI z))] [] (WM MA (upd MS 9 (putI (putI (MS 9) m (nI z)) k (1 - (MS 16)))) Mh v)
          refine M.blk (is := [(.aload_n 0, 0, 0, 0)]) (pc1 := 178) (lo1 := [(5, .int b114), (4, .int b58), (3, .int (nI (bN (MS 9) m))), (0, .ref 0), (1, .int (nI m)), (2, .int (nI z))]) (st1 := [.ref 0]) (w1 := (WM MA (upd MS 9 (putI (putI (MS 9) m (nI z)) k (1 - (MS 16)))) Mh v)) (by decide +kernel) rfl ?_
          refine M.callVv (as := []) (st := []) (nx := 181) okX4_hold lkX4_130 (m_hold (MS := (upd MS 9 (putI (putI (MS 9) m (nI z)) k (1 - (MS 16))))) hgeo hms hfs hk h3 hp) (by decide +kernel) (by decide) rfl (Nat.le_of_ble_eq_true rfl) rfl (by decide) ?_
          show g 0 0 181 [(5, .int b114), (4, .int b58), (3, .int (nI (bN (MS 9) m))), (0, .ref 0), (1, .int (nI m)), (2, .int (nI z))] [] (WM MA (upd MS 9 (hldN r c k κ p (putI (putI (MS 9) m (nI z)) k (1 - (MS 16))))) Mh v)
          exact M.retv (nx := 182) (by decide +kernel) ⟨rfl, by rw [wrtN, if_neg (fun e => hns (eS.mpr e)), if_pos ⟨eT.mp (b11 hb114 z118), nI_inj (Nat.lt_of_le_of_lt (Nat.sub_le _ _) (by omega)) (by omega) (z142.trans f15), nI_inj (by omega) (by omega) (z160.trans f16)⟩, f16, show (1 : Int32) - nI (p % 2) = nI (1 - p % 2) by rw [show (1 : Int32) = nI 1 from rfl, pk_sub (by omega)]]⟩
  have j58 : ∀ b58 : Int32, b58 = (if MS 12 = 1 ∧ nI m = MS 11 ∧ ¬ nI z = nI (bN (MS 9) m) ∧ nI (bN (MS 9) m) = MS 16 ∧ nI (patN r c (MS 9) k) = MS 15 then (1 : Int32) else 0) → g 0 0 58 [(3, .int (nI (bN (MS 9) m))), (0, .ref 0), (1, .int (nI m)), (2, .int (nI z))] [.int b58] (WM MA MS Mh v) := by
    intro b58 hb58
    refine M.blk (is := [(.istore 4, 4, 0, 0), (.iload 4, 4, 0, 0)]) (pc1 := 62) (lo1 := [(4, .int b58), (3, .int (nI (bN (MS 9) m))), (0, .ref 0), (1, .int (nI m)), (2, .int (nI z))]) (st1 := [.int b58]) (w1 := (WM MA MS Mh v)) (by decide +kernel) rfl ?_
    refine M.if_eq (off := 4) (tgt := 66) (nx := 65) (by decide +kernel) (fun z62 => ?_) (fun z62 => ?_)
    · have hns := b01 hb58 z62
      refine M.blk (is := [(.aload_n 0, 0, 0, 0), (.iload_n 1, 1, 0, 0), (.iload_n 2, 2, 0, 0)]) (pc1 := 69) (lo1 := [(4, .int b58), (3, .int (nI (bN (MS 9) m))), (0, .ref 0), (1, .int (nI m)), (2, .int (nI z))]) (st1 := [.int (nI z), .int (nI m), .ref 0]) (w1 := (WM MA MS Mh v)) (by decide +kernel) rfl ?_
      refine M.callVv (as := [.int (nI m), .int (nI z)]) (st := []) (nx := 72) okX4_put lkX4_126 (m_put (MS := MS) (m) (nI z)) (by decide +kernel) (by decide) rfl (Nat.le_of_ble_eq_true rfl) rfl (by decide) ?_
      show g 0 0 72 [(4, .int b58), (3, .int (nI (bN (MS 9) m))), (0, .ref 0), (1, .int (nI m)), (2, .int (nI z))] [] (WM MA (upd MS 9 (putI (MS 9) m (nI z))) Mh v)
      refine M.blk (is := [(.aload_n 0, 0, 0, 0), (.getfield 98, 4, 12, 0), (.iconst 2, 0, 0, 2)]) (pc1 := 77) (lo1 := [(4, .int b58), (3, .int (nI (bN (MS 9) m))), (0, .ref 0), (1, .int (nI m)), (2, .int (nI z))]) (st1 := [.int 2, .int (MS 12)]) (w1 := (WM MA (upd MS 9 (putI (MS 9) m (nI z))) Mh v)) (by decide +kernel) rfl ?_
      refine M.icmp_ne (off := 36) (tgt := 113) (nx := 80) (by decide +kernel) (fun z77 => ?_) (fun z77 => ?_)
      · refine M.blk (is := [(.iconst 0, 0, 0, 0)]) (pc1 := 114) (lo1 := [(4, .int b58), (3, .int (nI (bN (MS 9) m))), (0, .ref 0), (1, .int (nI m)), (2, .int (nI z))]) (st1 := [.int 0]) (w1 := (WM MA (upd MS 9 (putI (MS 9) m (nI z))) Mh v)) (by decide +kernel) rfl ?_
        exact j114 b58 _ hns (if_neg (fun e => z77 e.1)).symm
      · refine M.blk (is := [(.iload_n 1, 1, 0, 0), (.aload_n 0, 0, 0, 0), (.aload_n 0, 0, 0, 0), (.getfield 95, 4, 11, 0), (.aload_n 0, 0, 0, 0), (.getfield 101, 4, 13, 0)]) (pc1 := 90) (lo1 := [(4, .int b58), (3, .int (nI (bN (MS 9) m))), (0, .ref 0), (1, .int (nI m)), (2, .int (nI z))]) (st1 := [.int (MS 13), .int (MS 11), .ref 0, .int (nI m)]) (w1 := (WM MA (upd MS 9 (putI (MS 9) m (nI z))) Mh v)) (by decide +kernel) rfl ?_
        have h2 : κ = 2 := nI_inj (by omega) (by decide) (f12.symm.trans z77)
        have hp128 : p < 128 := by rw [h2] at hp; exact hp
        have hby : MS 13 = nI (p / 32) := by rw [f13, if_pos h2]
        rw [hby, f11]
        refine M.callVi (as := [.int (nI k), .int (nI (p / 32))]) (st := [.int (nI m)]) (nx := 93) okX4_beside lkX4_83 (m_beside (MS := (upd MS 9 (putI (MS 9) m (nI z)))) hgeo hms hk (d := p / 32) (by omega)) (by decide +kernel) (by decide) rfl (Nat.le_of_ble_eq_true rfl) rfl (by decide) ?_
        refine M.icmp_ne (off := 20) (tgt := 113) (nx := 96) (by decide +kernel) (fun z93 => ?_) (fun z93 => ?_)
        · refine M.blk (is := [(.iconst 0, 0, 0, 0)]) (pc1 := 114) (lo1 := [(4, .int b58), (3, .int (nI (bN (MS 9) m))), (0, .ref 0), (1, .int (nI m)), (2, .int (nI z))]) (st1 := [.int 0]) (w1 := (WM MA (upd MS 9 (putI (MS 9) m (nI z))) Mh v)) (by decide +kernel) rfl ?_
          exact j114 b58 _ hns (if_neg (fun e => z93 e.2.1)).symm
        · refine M.blk (is := [(.iload_n 2, 2, 0, 0), (.iload_n 3, 3, 0, 0)]) (pc1 := 98) (lo1 := [(4, .int b58), (3, .int (nI (bN (MS 9) m))), (0, .ref 0), (1, .int (nI m)), (2, .int (nI z))]) (st1 := [.int (nI (bN (MS 9) m)), .int (nI z)]) (w1 := (WM MA (upd MS 9 (putI (MS 9) m (nI z))) Mh v)) (by decide +kernel) rfl ?_
          refine M.icmp_eq (off := 15) (tgt := 113) (nx := 101) (by decide +kernel) (fun z98 => ?_) (fun z98 => ?_)
          · refine M.blk (is := [(.iconst 0, 0, 0, 0)]) (pc1 := 114) (lo1 := [(4, .int b58), (3, .int (nI (bN (MS 9) m))), (0, .ref 0), (1, .int (nI m)), (2, .int (nI z))]) (st1 := [.int 0]) (w1 := (WM MA (upd MS 9 (putI (MS 9) m (nI z))) Mh v)) (by decide +kernel) rfl ?_
            exact j114 b58 _ hns (if_neg (fun e => e.2.2.1 z98)).symm
          · refine M.blk (is := [(.iload_n 2, 2, 0, 0), (.aload_n 0, 0, 0, 0), (.getfield 104, 4, 14, 0)]) (pc1 := 106) (lo1 := [(4, .int b58), (3, .int (nI (bN (MS 9) m))), (0, .ref 0), (1, .int (nI m)), (2, .int (nI z))]) (st1 := [.int (MS 14), .int (nI z)]) (w1 := (WM MA (upd MS 9 (putI (MS 9) m (nI z))) Mh v)) (by decide +kernel) rfl ?_
            refine M.icmp_ne (off := 7) (tgt := 113) (nx := 109) (by decide +kernel) (fun z106 => ?_) (fun z106 => ?_)
            · refine M.blk (is := [(.iconst 0, 0, 0, 0)]) (pc1 := 114) (lo1 := [(4, .int b58), (3, .int (nI (bN (MS 9) m))), (0, .ref 0), (1, .int (nI m)), (2, .int (nI z))]) (st1 := [.int 0]) (w1 := (WM MA (upd MS 9 (putI (MS 9) m (nI z))) Mh v)) (by decide +kernel) rfl ?_
              exact j114 b58 _ hns (if_neg (fun e => z106 e.2.2.2)).symm
            · refine M.blk (is := [(.iconst 1, 0, 0, 1), (.goto 4, 114, 0, 0)]) (pc1 := 114) (lo1 := [(4, .int b58), (3, .int (nI (bN (MS 9) m))), (0, .ref 0), (1, .int (nI m)), (2, .int (nI z))]) (st1 := [.int 1]) (w1 := (WM MA (upd MS 9 (putI (MS 9) m (nI z))) Mh v)) (by decide +kernel) rfl ?_
              exact j114 b58 _ hns (if_pos ⟨z77, z93, z98, z106⟩).symm
    · exact M.retv (nx := 66) (by decide +kernel) ⟨rfl, by rw [wrtN, if_pos (eS.mp (b11 hb58 z62)), upd_id rfl]⟩
  show g 0 0 0 [(0, .ref 0), (1, .int (nI m)), (2, .int (nI z))] [] (WM MA MS Mh v)
  refine M.blk (is := [(.aload_n 0, 0, 0, 0), (.getfield 92, 4, 9, 0), (.iload_n 1, 1, 0, 0), (.ishr, 0, 0, 0), (.iconst 1, 0, 0, 1), (.iand, 0, 0, 0)]) (pc1 := 8) (lo1 := [(0, .ref 0), (1, .int (nI m)), (2, .int (nI z))]) (st1 := [.int (((MS 9) >>> ((nI m) &&& 31)) &&& 1)]) (w1 := (WM MA MS Mh v)) (by decide +kernel) rfl ?_
  rw [bit_nI (MS 9) (show m < 32 by omega)]
  refine M.blk (is := [(.istore_n 3, 3, 0, 0), (.aload_n 0, 0, 0, 0), (.getfield 98, 4, 12, 0), (.iconst 1, 0, 0, 1)]) (pc1 := 14) (lo1 := [(3, .int (nI (bN (MS 9) m))), (0, .ref 0), (1, .int (nI m)), (2, .int (nI z))]) (st1 := [.int 1, .int (MS 12)]) (w1 := (WM MA MS Mh v)) (by decide +kernel) rfl ?_
  refine M.icmp_ne (off := 43) (tgt := 57) (nx := 17) (by decide +kernel) (fun z14 => ?_) (fun z14 => ?_)
  · refine M.blk (is := [(.iconst 0, 0, 0, 0)]) (pc1 := 58) (lo1 := [(3, .int (nI (bN (MS 9) m))), (0, .ref 0), (1, .int (nI m)), (2, .int (nI z))]) (st1 := [.int 0]) (w1 := (WM MA MS Mh v)) (by decide +kernel) rfl ?_
    exact j58 _ (if_neg (fun e => z14 e.1)).symm
  · refine M.blk (is := [(.iload_n 1, 1, 0, 0), (.aload_n 0, 0, 0, 0), (.getfield 95, 4, 11, 0)]) (pc1 := 22) (lo1 := [(3, .int (nI (bN (MS 9) m))), (0, .ref 0), (1, .int (nI m)), (2, .int (nI z))]) (st1 := [.int (MS 11), .int (nI m)]) (w1 := (WM MA MS Mh v)) (by decide +kernel) rfl ?_
    refine M.icmp_ne (off := 35) (tgt := 57) (nx := 25) (by decide +kernel) (fun z22 => ?_) (fun z22 => ?_)
    · refine M.blk (is := [(.iconst 0, 0, 0, 0)]) (pc1 := 58) (lo1 := [(3, .int (nI (bN (MS 9) m))), (0, .ref 0), (1, .int (nI m)), (2, .int (nI z))]) (st1 := [.int 0]) (w1 := (WM MA MS Mh v)) (by decide +kernel) rfl ?_
      exact j58 _ (if_neg (fun e => z22 e.2.1)).symm
    · refine M.blk (is := [(.iload_n 2, 2, 0, 0), (.iload_n 3, 3, 0, 0)]) (pc1 := 27) (lo1 := [(3, .int (nI (bN (MS 9) m))), (0, .ref 0), (1, .int (nI m)), (2, .int (nI z))]) (st1 := [.int (nI (bN (MS 9) m)), .int (nI z)]) (w1 := (WM MA MS Mh v)) (by decide +kernel) rfl ?_
      refine M.icmp_eq (off := 30) (tgt := 57) (nx := 30) (by decide +kernel) (fun z27 => ?_) (fun z27 => ?_)
      · refine M.blk (is := [(.iconst 0, 0, 0, 0)]) (pc1 := 58) (lo1 := [(3, .int (nI (bN (MS 9) m))), (0, .ref 0), (1, .int (nI m)), (2, .int (nI z))]) (st1 := [.int 0]) (w1 := (WM MA MS Mh v)) (by decide +kernel) rfl ?_
        exact j58 _ (if_neg (fun e => e.2.2.1 z27)).symm
      · refine M.blk (is := [(.iload_n 3, 3, 0, 0), (.aload_n 0, 0, 0, 0), (.getfield 113, 4, 16, 0)]) (pc1 := 35) (lo1 := [(3, .int (nI (bN (MS 9) m))), (0, .ref 0), (1, .int (nI m)), (2, .int (nI z))]) (st1 := [.int (MS 16), .int (nI (bN (MS 9) m))]) (w1 := (WM MA MS Mh v)) (by decide +kernel) rfl ?_
        refine M.icmp_ne (off := 22) (tgt := 57) (nx := 38) (by decide +kernel) (fun z35 => ?_) (fun z35 => ?_)
        · refine M.blk (is := [(.iconst 0, 0, 0, 0)]) (pc1 := 58) (lo1 := [(3, .int (nI (bN (MS 9) m))), (0, .ref 0), (1, .int (nI m)), (2, .int (nI z))]) (st1 := [.int 0]) (w1 := (WM MA MS Mh v)) (by decide +kernel) rfl ?_
          exact j58 _ (if_neg (fun e => z35 e.2.2.2.1)).symm
        · refine M.blk (is := [(.aload_n 0, 0, 0, 0), (.aload_n 0, 0, 0, 0), (.getfield 95, 4, 11, 0)]) (pc1 := 43) (lo1 := [(3, .int (nI (bN (MS 9) m))), (0, .ref 0), (1, .int (nI m)), (2, .int (nI z))]) (st1 := [.int (MS 11), .ref 0]) (w1 := (WM MA MS Mh v)) (by decide +kernel) rfl ?_
          rw [hfs.1]
          refine M.callVi (as := [.int (nI k)]) (st := []) (nx := 46) okX4_patternOf lkX4_123 (m_patternOf (MS := MS) hgeo hms hk) (by decide +kernel) (by decide) rfl (Nat.le_of_ble_eq_true rfl) rfl (by decide) ?_
          refine M.blk (is := [(.aload_n 0, 0, 0, 0), (.getfield 110, 4, 15, 0)]) (pc1 := 50) (lo1 := [(3, .int (nI (bN (MS 9) m))), (0, .ref 0), (1, .int (nI m)), (2, .int (nI z))]) (st1 := [.int (MS 15), .int (nI (patN r c (MS 9) k))]) (w1 := (WM MA MS Mh v)) (by decide +kernel) rfl ?_
          refine M.icmp_ne (off := 7) (tgt := 57) (nx := 53) (by decide +kernel) (fun z50 => ?_) (fun z50 => ?_)
          · refine M.blk (is := [(.iconst 0, 0, 0, 0)]) (pc1 := 58) (lo1 := [(3, .int (nI (bN (MS 9) m))), (0, .ref 0), (1, .int (nI m)), (2, .int (nI z))]) (st1 := [.int 0]) (w1 := (WM MA MS Mh v)) (by decide +kernel) rfl ?_
            exact j58 _ (if_neg (fun e => z50 e.2.2.2.2)).symm
          · refine M.blk (is := [(.iconst 1, 0, 0, 1), (.goto 4, 58, 0, 0)]) (pc1 := 58) (lo1 := [(3, .int (nI (bN (MS 9) m))), (0, .ref 0), (1, .int (nI m)), (2, .int (nI z))]) (st1 := [.int 1]) (w1 := (WM MA MS Mh v)) (by decide +kernel) rfl ?_
            exact j58 _ (if_pos ⟨z14, z22, z27, z35, z50⟩).symm
def nrD (r c k d : Nat) : Int32 := if ¬ oI (nbO r c k d) = -1 then (1 : Int32) <<< (oI (nbO r c k d) &&& 31) else 0
def nrI (r c k : Nat) : Int32 := ((((1 : Int32) <<< (nI k &&& 31)) ||| nrD r c k 0) ||| nrD r c k 1 ||| nrD r c k 2) ||| nrD r c k 3
def wAl (r c k κ p : Nat) (wh td B0 : Int32) (j : Nat) : Int32 := match j with
  | 0 => B0
  | j + 1 => if bt (wh &&& nrI r c k) j = true then wrtN r c k κ p j (bN td j) (wAl r c k κ p wh td B0 j) else wAl r c k κ p wh td B0 j
theorem wAl_succ (r c k κ p : Nat) (wh td B0 : Int32) (j : Nat) : wAl r c k κ p wh td B0 (j + 1) = if bt (wh &&& nrI r c k) j = true then wrtN r c k κ p j (bN td j) (wAl r c k κ p wh td B0 j) else wAl r c k κ p wh td B0 j := rfl
theorem nrI_k {r c k : Nat} (hk : k < 32) : bt (nrI r c k) k = true := by
  unfold nrI
  rw [b_or, b_or, b_or, b_or, b_1shl hk hk]
  simp
theorem nrI_ne {r c k : Nat} (hk : k < 32) : ¬ nrI r c k = 0 := by
  intro e
  have := nrI_k (r := r) (c := c) hk
  rw [e, b_0] at this
  cases this
def plI (wh nr td B : Int32) : Int32 := (B &&& ((wh &&& (nr ^^^ (-1))) ^^^ (-1))) ||| (td &&& (wh &&& (nr ^^^ (-1))))
def shI (wh td S : Int32) : Int32 := (S &&& (wh ^^^ (-1))) ||| (td &&& wh)
theorem m_writeAll {r c f h t : Nat} (hgeo : GeoOk r c f h t) (hms : MSok r c f h t MS) {k κ p : Nat} (hfs : FS k κ p MS) (hk : k < r * c) (h3 : κ < 3) (hp : p < ptsN κ) (wh td : Int32) : CC 5 mX4_writeAll 0 0 [.ref 0, .int wh, .int td] (WM MA MS Mh v) (Rv (WM MA (upd (upd MS 9 (wAl r c k κ p wh td (plI wh (nrI r c k) td (MS 9)) (r * c))) 10 (shI wh td (MS 10))) Mh v)) := by
  have h25 : r * c ≤ 25 := Nat.mul_le_mul hgeo.1.2 hgeo.2.1.2
  have h9a : 9 ≤ r * c := Nat.mul_le_mul hgeo.1.1 hgeo.2.1.1
  have hpl := ptsN_le κ
  have hpt := ptP_16 hp h3
  refine CC.of okX4_writeAll.1 (Nat.le_of_ble_eq_true rfl) (fun g M => ?_)
  have lp : ∀ m j, j + m = r * c → g 0 0 93 [(0, .ref 0), (1, .int wh), (2, .int td), (3, .int (nrI r c k)), (5, .int (nI j))] [] (WM MA (upd MS 9 (wAl r c k κ p wh td (plI wh (nrI r c k) td (MS 9)) j)) Mh v) := by
    intro m
    induction m with
    | zero =>
      intro j hj
      have ej : r * c = j := by omega
      rw [← ej]
      refine M.blk (is := [(.iload 5, 5, 0, 0), (.aload_n 0, 0, 0, 0)]) (pc1 := 96) (lo1 := [(0, .ref 0), (1, .int wh), (2, .int td), (3, .int (nrI r c k)), (5, .int (nI (r * c)))]) (st1 := [.ref 0, .int (nI (r * c))]) (w1 := (WM MA (upd MS 9 (wAl r c k κ p wh td (plI wh (nrI r c k) td (MS 9)) (r * c))) Mh v)) (by decide +kernel) rfl ?_
      refine M.callVi (as := []) (st := [.int (nI (r * c))]) (nx := 99) okX4_cells lkX4_57 (m_cells (MS := (upd MS 9 (wAl r c k κ p wh td (plI wh (nrI r c k) td (MS 9)) (r * c)))) hms.1 hms.2.1) (by decide +kernel) (by decide) rfl (Nat.le_of_ble_eq_true rfl) rfl (by decide) ?_
      refine M.icmp_ge (off := 36) (tgt := 135) (nx := 102) (by decide +kernel) (fun z99 => ?_) (fun z99 => by exfalso; exact z99 (nI_le (Nat.le_refl _) (by omega)))
      refine M.blk (is := [(.aload_n 0, 0, 0, 0), (.aload_n 0, 0, 0, 0), (.getfield 136, 4, 10, 0), (.iload_n 1, 1, 0, 0), (.iconst (-1), 0, 0, (-1)), (.ixor, 0, 0, 0), (.iand, 0, 0, 0), (.iload_n 2, 2, 0, 0), (.iload_n 1, 1, 0, 0), (.iand, 0, 0, 0), (.ior, 0, 0, 0), (.putfield 136, 4, 10, 0)]) (pc1 := 151) (lo1 := [(0, .ref 0), (1, .int wh), (2, .int td), (3, .int (nrI r c k)), (5, .int (nI (r * c)))]) (st1 := []) (w1 := (WM MA (upd (upd MS 9 (wAl r c k κ p wh td (plI wh (nrI r c k) td (MS 9)) (r * c))) 10 (((MS 10) &&& (wh ^^^ (-1))) ||| (td &&& wh))) Mh v)) (by decide +kernel) rfl ?_
      exact M.retv (nx := 152) (by decide +kernel) ⟨rfl, rfl⟩
    | succ m ih =>
      intro j hj
      refine M.blk (is := [(.iload 5, 5, 0, 0), (.aload_n 0, 0, 0, 0)]) (pc1 := 96) (lo1 := [(0, .ref 0), (1, .int wh), (2, .int td), (3, .int (nrI r c k)), (5, .int (nI j))]) (st1 := [.ref 0, .int (nI j)]) (w1 := (WM MA (upd MS 9 (wAl r c k κ p wh td (plI wh (nrI r c k) td (MS 9)) j)) Mh v)) (by decide +kernel) rfl ?_
      refine M.callVi (as := []) (st := [.int (nI j)]) (nx := 99) okX4_cells lkX4_57 (m_cells (MS := (upd MS 9 (wAl r c k κ p wh td (plI wh (nrI r c k) td (MS 9)) j))) hms.1 hms.2.1) (by decide +kernel) (by decide) rfl (Nat.le_of_ble_eq_true rfl) rfl (by decide) ?_
      refine M.icmp_ge (off := 36) (tgt := 135) (nx := 102) (by decide +kernel) (fun z99 => by exfalso; exact nI_ge (show j < r * c by omega) (by omega) z99) (fun z99 => ?_)
      refine M.blk (is := [(.iload_n 3, 3, 0, 0)]) (pc1 := 103) (lo1 := [(0, .ref 0), (1, .int wh), (2, .int td), (3, .int (nrI r c k)), (5, .int (nI j))]) (st1 := [.int (nrI r c k)]) (w1 := (WM MA (upd MS 9 (wAl r c k κ p wh td (plI wh (nrI r c k) td (MS 9)) j)) Mh v)) (by decide +kernel) rfl ?_
      refine M.if_eq (off := 32) (tgt := 135) (nx := 106) (by decide +kernel) (fun z103 => by exfalso; exact nrI_ne (show k < 32 by omega) z103) (fun z103 => ?_)
      refine M.blk (is := [(.iload_n 1, 1, 0, 0), (.iload_n 3, 3, 0, 0), (.iand, 0, 0, 0), (.iload 5, 5, 0, 0)]) (pc1 := 111) (lo1 := [(0, .ref 0), (1, .int wh), (2, .int td), (3, .int (nrI r c k)), (5, .int (nI j))]) (st1 := [.int (nI j), .int (wh &&& (nrI r c k))]) (w1 := (WM MA (upd MS 9 (wAl r c k κ p wh td (plI wh (nrI r c k) td (MS 9)) j)) Mh v)) (by decide +kernel) rfl ?_
      refine M.callSi (as := [.int (wh &&& (nrI r c k)), .int (nI j)]) (st := []) (nx := 114) okX4_has lkX4_119 (s_hasM (WM MA (upd MS 9 (wAl r c k κ p wh td (plI wh (nrI r c k) td (MS 9)) j)) Mh v) (wh &&& (nrI r c k)) (nI j)) (by decide +kernel) (by decide) rfl (Nat.le_of_ble_eq_true rfl) ?_
      rw [hb_iff _ (show j < 32 by omega)]
      refine M.if_eq (off := 15) (tgt := 129) (nx := 117) (by decide +kernel) (fun z114 => ?_) (fun z114 => ?_)
      · refine M.blk (is := [(.iinc 5 1, 5, 0, 1), (.goto (-39), 93, 0, 0)]) (pc1 := 93) (lo1 := [(5, .int ((nI j) + 1)), (0, .ref 0), (1, .int wh), (2, .int td), (3, .int (nrI r c k))]) (st1 := []) (w1 := (WM MA (upd MS 9 (wAl r c k κ p wh td (plI wh (nrI r c k) td (MS 9)) j)) Mh v)) (by decide +kernel) rfl ?_
        refine M.lsub [1, 2, 3, 4, 0] (lo1 := [(0, .ref 0), (1, .int wh), (2, .int td), (3, .int (nrI r c k)), (5, .int ((nI j) + 1))]) rfl ?_
        rw [nI_1]
        have e := ih (j + 1) (by omega)
        rw [wAl_succ, if_neg (b2i_f z114)] at e
        exact e
      · refine M.blk (is := [(.aload_n 0, 0, 0, 0), (.iload 5, 5, 0, 0), (.iload_n 2, 2, 0, 0), (.iload 5, 5, 0, 0), (.ishr, 0, 0, 0), (.iconst 1, 0, 0, 1), (.iand, 0, 0, 0)]) (pc1 := 126) (lo1 := [(0, .ref 0), (1, .int wh), (2, .int td), (3, .int (nrI r c k)), (5, .int (nI j))]) (st1 := [.int ((td >>> ((nI j) &&& 31)) &&& 1), .int (nI j), .ref 0]) (w1 := (WM MA (upd MS 9 (wAl r c k κ p wh td (plI wh (nrI r c k) td (MS 9)) j)) Mh v)) (by decide +kernel) rfl ?_
        rw [bit_nI td (show j < 32 by omega)]
        refine M.callVv (as := [.int (nI j), .int (nI (bN td j))]) (st := []) (nx := 129) okX4_write lkX4_133 (m_write (MS := (upd MS 9 (wAl r c k κ p wh td (plI wh (nrI r c k) td (MS 9)) j))) hgeo hms hfs hk h3 hp (m := j) (z := bN td j) (by omega) (bN_2 _ _)) (by decide +kernel) (by decide) rfl (Nat.le_of_ble_eq_true rfl) rfl (by decide) ?_
        show g 0 0 129 [(0, .ref 0), (1, .int wh), (2, .int td), (3, .int (nrI r c k)), (5, .int (nI j))] [] (WM MA (upd MS 9 (wrtN r c k κ p j (bN td j) (wAl r c k κ p wh td (plI wh (nrI r c k) td (MS 9)) j))) Mh v)
        refine M.blk (is := [(.iinc 5 1, 5, 0, 1), (.goto (-39), 93, 0, 0)]) (pc1 := 93) (lo1 := [(5, .int ((nI j) + 1)), (0, .ref 0), (1, .int wh), (2, .int td), (3, .int (nrI r c k))]) (st1 := []) (w1 := (WM MA (upd MS 9 (wrtN r c k κ p j (bN td j) (wAl r c k κ p wh td (plI wh (nrI r c k) td (MS 9)) j))) Mh v)) (by decide +kernel) rfl ?_
        refine M.lsub [1, 2, 3, 4, 0] (lo1 := [(0, .ref 0), (1, .int wh), (2, .int td), (3, .int (nrI r c k)), (5, .int ((nI j) + 1))]) rfl ?_
        rw [nI_1]
        have e := ih (j + 1) (by omega)
        rw [wAl_succ, if_pos (b2i_t z114)] at e
        exact e
  show g 0 0 0 [(0, .ref 0), (1, .int wh), (2, .int td)] [] (WM MA MS Mh v)
  refine M.blk (is := [(.iconst 0, 0, 0, 0), (.istore_n 3, 3, 0, 0), (.aload_n 0, 0, 0, 0), (.getfield 95, 4, 11, 0), (.iconst (-1), 0, 0, (-1))]) (pc1 := 7) (lo1 := [(3, .int 0), (0, .ref 0), (1, .int wh), (2, .int td)]) (st1 := [.int (-1), .int (MS 11)]) (w1 := (WM MA MS Mh v)) (by decide +kernel) rfl ?_
  refine M.icmp_eq (off := 58) (tgt := 65) (nx := 10) (by decide +kernel) (fun z7 => by exfalso; rw [hfs.1] at z7; exact oI_ne (by omega) z7) (fun z7 => ?_)
  refine M.blk (is := [(.iconst 1, 0, 0, 1), (.aload_n 0, 0, 0, 0), (.getfield 95, 4, 11, 0)]) (pc1 := 15) (lo1 := [(3, .int 0), (0, .ref 0), (1, .int wh), (2, .int td)]) (st1 := [.int (MS 11), .int 1]) (w1 := (WM MA MS Mh v)) (by decide +kernel) rfl ?_
  rw [hfs.1]
  refine M.blk (is := [(.ishl, 0, 0, 0), (.istore_n 3, 3, 0, 0), (.iconst 0, 0, 0, 0), (.istore 4, 4, 0, 0), (.iload 4, 4, 0, 0), (.iconst 4, 0, 0, 4)]) (pc1 := 23) (lo1 := [(4, .int 0), (3, .int ((1 : Int32) <<< ((nI k) &&& 31))), (0, .ref 0), (1, .int wh), (2, .int td)]) (st1 := [.int 4, .int 0]) (w1 := (WM MA MS Mh v)) (by decide +kernel) rfl ?_
  refine M.icmp_ge (off := 42) (tgt := 65) (nx := 26) (by decide +kernel) (fun h => absurd h (by decide)) (fun _ => ?_)
  refine M.blk (is := [(.iload_n 3, 3, 0, 0), (.aload_n 0, 0, 0, 0), (.aload_n 0, 0, 0, 0), (.getfield 95, 4, 11, 0), (.iload 4, 4, 0, 0)]) (pc1 := 34) (lo1 := [(4, .int 0), (3, .int ((1 : Int32) <<< ((nI k) &&& 31))), (0, .ref 0), (1, .int wh), (2, .int td)]) (st1 := [.int 0, .int (MS 11), .ref 0, .int ((1 : Int32) <<< ((nI k) &&& 31))]) (w1 := (WM MA MS Mh v)) (by decide +kernel) rfl ?_
  rw [hfs.1]
  refine M.callVi (as := [.int (nI k), .int 0]) (st := [.int ((1 : Int32) <<< ((nI k) &&& 31))]) (nx := 37) okX4_beside lkX4_83 (m_beside hgeo hms hk (d := 0) (by decide)) (by decide +kernel) (by decide) rfl (Nat.le_of_ble_eq_true rfl) rfl (by decide) ?_
  refine M.blk (is := [(.iconst (-1), 0, 0, (-1))]) (pc1 := 38) (lo1 := [(4, .int 0), (3, .int ((1 : Int32) <<< ((nI k) &&& 31))), (0, .ref 0), (1, .int wh), (2, .int td)]) (st1 := [.int (-1), .int (oI (nbO r c k 0)), .int ((1 : Int32) <<< ((nI k) &&& 31))]) (w1 := (WM MA MS Mh v)) (by decide +kernel) rfl ?_
  have j38 : ∀ b38 : Int32, b38 = (if ¬ oI (nbO r c k 0) = (-1) then ((1 : Int32) <<< ((oI (nbO r c k 0)) &&& 31) : Int32) else 0) → g 0 0 57 [(4, .int 0), (3, .int ((1 : Int32) <<< ((nI k) &&& 31))), (0, .ref 0), (1, .int wh), (2, .int td)] [.int b38, .int ((1 : Int32) <<< ((nI k) &&& 31))] (WM MA MS Mh v) := by
    intro b38 hb38
    refine M.blk (is := [(.ior, 0, 0, 0), (.istore_n 3, 3, 0, 0), (.iinc 4 1, 4, 0, 1), (.goto (-42), 20, 0, 0), (.iload 4, 4, 0, 0), (.iconst 4, 0, 0, 4)]) (pc1 := 23) (lo1 := [(4, .int 1), (3, .int (((1 : Int32) <<< ((nI k) &&& 31)) ||| b38)), (0, .ref 0), (1, .int wh), (2, .int td)]) (st1 := [.int 4, .int 1]) (w1 := (WM MA MS Mh v)) (by decide +kernel) rfl ?_
    refine M.icmp_ge (off := 42) (tgt := 65) (nx := 26) (by decide +kernel) (fun h => absurd h (by decide)) (fun _ => ?_)
    refine M.blk (is := [(.iload_n 3, 3, 0, 0), (.aload_n 0, 0, 0, 0), (.aload_n 0, 0, 0, 0), (.getfield 95, 4, 11, 0), (.iload 4, 4, 0, 0)]) (pc1 := 34) (lo1 := [(4, .int 1), (3, .int (((1 : Int32) <<< ((nI k) &&& 31)) ||| b38)), (0, .ref 0), (1, .int wh), (2, .int td)]) (st1 := [.int 1, .int (MS 11), .ref 0, .int (((1 : Int32) <<< ((nI k) &&& 31)) ||| b38)]) (w1 := (WM MA MS Mh v)) (by decide +kernel) rfl ?_
    rw [hfs.1]
    refine M.callVi (as := [.int (nI k), .int 1]) (st := [.int (((1 : Int32) <<< ((nI k) &&& 31)) ||| b38)]) (nx := 37) okX4_beside lkX4_83 (m_beside hgeo hms hk (d := 1) (by decide)) (by decide +kernel) (by decide) rfl (Nat.le_of_ble_eq_true rfl) rfl (by decide) ?_
    refine M.blk (is := [(.iconst (-1), 0, 0, (-1))]) (pc1 := 38) (lo1 := [(4, .int 1), (3, .int (((1 : Int32) <<< ((nI k) &&& 31)) ||| b38)), (0, .ref 0), (1, .int wh), (2, .int td)]) (st1 := [.int (-1), .int (oI (nbO r c k 1)), .int (((1 : Int32) <<< ((nI k) &&& 31)) ||| b38)]) (w1 := (WM MA MS Mh v)) (by decide +kernel) rfl ?_
    have j38_ : ∀ b38_ : Int32, b38_ = (if ¬ oI (nbO r c k 1) = (-1) then ((1 : Int32) <<< ((oI (nbO r c k 1)) &&& 31) : Int32) else 0) → g 0 0 57 [(4, .int 1), (3, .int (((1 : Int32) <<< ((nI k) &&& 31)) ||| b38)), (0, .ref 0), (1, .int wh), (2, .int td)] [.int b38_, .int (((1 : Int32) <<< ((nI k) &&& 31)) ||| b38)] (WM MA MS Mh v) := by
      intro b38_ hb38_
      refine M.blk (is := [(.ior, 0, 0, 0), (.istore_n 3, 3, 0, 0), (.iinc 4 1, 4, 0, 1), (.goto (-42), 20, 0, 0), (.iload 4, 4, 0, 0), (.iconst 4, 0, 0, 4)]) (pc1 := 23) (lo1 := [(4, .int 2), (3, .int ((((1 : Int32) <<< ((nI k) &&& 31)) ||| b38) ||| b38_)), (0, .ref 0), (1, .int wh), (2, .int td)]) (st1 := [.int 4, .int 2]) (w1 := (WM MA MS Mh v)) (by decide +kernel) rfl ?_
      refine M.icmp_ge (off := 42) (tgt := 65) (nx := 26) (by decide +kernel) (fun h => absurd h (by decide)) (fun _ => ?_)
      refine M.blk (is := [(.iload_n 3, 3, 0, 0), (.aload_n 0, 0, 0, 0), (.aload_n 0, 0, 0, 0), (.getfield 95, 4, 11, 0), (.iload 4, 4, 0, 0)]) (pc1 := 34) (lo1 := [(4, .int 2), (3, .int ((((1 : Int32) <<< ((nI k) &&& 31)) ||| b38) ||| b38_)), (0, .ref 0), (1, .int wh), (2, .int td)]) (st1 := [.int 2, .int (MS 11), .ref 0, .int ((((1 : Int32) <<< ((nI k) &&& 31)) ||| b38) ||| b38_)]) (w1 := (WM MA MS Mh v)) (by decide +kernel) rfl ?_
      rw [hfs.1]
      refine M.callVi (as := [.int (nI k), .int 2]) (st := [.int ((((1 : Int32) <<< ((nI k) &&& 31)) ||| b38) ||| b38_)]) (nx := 37) okX4_beside lkX4_83 (m_beside hgeo hms hk (d := 2) (by decide)) (by decide +kernel) (by decide) rfl (Nat.le_of_ble_eq_true rfl) rfl (by decide) ?_
      refine M.blk (is := [(.iconst (-1), 0, 0, (-1))]) (pc1 := 38) (lo1 := [(4, .int 2), (3, .int ((((1 : Int32) <<< ((nI k) &&& 31)) ||| b38) ||| b38_)), (0, .ref 0), (1, .int wh), (2, .int td)]) (st1 := [.int (-1), .int (oI (nbO r c k 2)), .int ((((1 : Int32) <<< ((nI k) &&& 31)) ||| b38) ||| b38_)]) (w1 := (WM MA MS Mh v)) (by decide +kernel) rfl ?_
      have j38__ : ∀ b38__ : Int32, b38__ = (if ¬ oI (nbO r c k 2) = (-1) then ((1 : Int32) <<< ((oI (nbO r c k 2)) &&& 31) : Int32) else 0) → g 0 0 57 [(4, .int 2), (3, .int ((((1 : Int32) <<< ((nI k) &&& 31)) ||| b38) ||| b38_)), (0, .ref 0), (1, .int wh), (2, .int td)] [.int b38__, .int ((((1 : Int32) <<< ((nI k) &&& 31)) ||| b38) ||| b38_)] (WM MA MS Mh v) := by
        intro b38__ hb38__
        refine M.blk (is := [(.ior, 0, 0, 0), (.istore_n 3, 3, 0, 0), (.iinc 4 1, 4, 0, 1), (.goto (-42), 20, 0, 0), (.iload 4, 4, 0, 0), (.iconst 4, 0, 0, 4)]) (pc1 := 23) (lo1 := [(4, .int 3), (3, .int (((((1 : Int32) <<< ((nI k) &&& 31)) ||| b38) ||| b38_) ||| b38__)), (0, .ref 0), (1, .int wh), (2, .int td)]) (st1 := [.int 4, .int 3]) (w1 := (WM MA MS Mh v)) (by decide +kernel) rfl ?_
        refine M.icmp_ge (off := 42) (tgt := 65) (nx := 26) (by decide +kernel) (fun h => absurd h (by decide)) (fun _ => ?_)
        refine M.blk (is := [(.iload_n 3, 3, 0, 0), (.aload_n 0, 0, 0, 0), (.aload_n 0, 0, 0, 0), (.getfield 95, 4, 11, 0), (.iload 4, 4, 0, 0)]) (pc1 := 34) (lo1 := [(4, .int 3), (3, .int (((((1 : Int32) <<< ((nI k) &&& 31)) ||| b38) ||| b38_) ||| b38__)), (0, .ref 0), (1, .int wh), (2, .int td)]) (st1 := [.int 3, .int (MS 11), .ref 0, .int (((((1 : Int32) <<< ((nI k) &&& 31)) ||| b38) ||| b38_) ||| b38__)]) (w1 := (WM MA MS Mh v)) (by decide +kernel) rfl ?_
        rw [hfs.1]
        refine M.callVi (as := [.int (nI k), .int 3]) (st := [.int (((((1 : Int32) <<< ((nI k) &&& 31)) ||| b38) ||| b38_) ||| b38__)]) (nx := 37) okX4_beside lkX4_83 (m_beside hgeo hms hk (d := 3) (by decide)) (by decide +kernel) (by decide) rfl (Nat.le_of_ble_eq_true rfl) rfl (by decide) ?_
        refine M.blk (is := [(.iconst (-1), 0, 0, (-1))]) (pc1 := 38) (lo1 := [(4, .int 3), (3, .int (((((1 : Int32) <<< ((nI k) &&& 31)) ||| b38) ||| b38_) ||| b38__)), (0, .ref 0), (1, .int wh), (2, .int td)]) (st1 := [.int (-1), .int (oI (nbO r c k 3)), .int (((((1 : Int32) <<< ((nI k) &&& 31)) ||| b38) ||| b38_) ||| b38__)]) (w1 := (WM MA MS Mh v)) (by decide +kernel) rfl ?_
        have j38___ : ∀ b38___ : Int32, b38___ = (if ¬ oI (nbO r c k 3) = (-1) then ((1 : Int32) <<< ((oI (nbO r c k 3)) &&& 31) : Int32) else 0) → g 0 0 57 [(4, .int 3), (3, .int (((((1 : Int32) <<< ((nI k) &&& 31)) ||| b38) ||| b38_) ||| b38__)), (0, .ref 0), (1, .int wh), (2, .int td)] [.int b38___, .int (((((1 : Int32) <<< ((nI k) &&& 31)) ||| b38) ||| b38_) ||| b38__)] (WM MA MS Mh v) := by
          intro b38___ hb38___
          refine M.blk (is := [(.ior, 0, 0, 0), (.istore_n 3, 3, 0, 0), (.iinc 4 1, 4, 0, 1), (.goto (-42), 20, 0, 0), (.iload 4, 4, 0, 0), (.iconst 4, 0, 0, 4)]) (pc1 := 23) (lo1 := [(4, .int 4), (3, .int ((((((1 : Int32) <<< ((nI k) &&& 31)) ||| b38) ||| b38_) ||| b38__) ||| b38___)), (0, .ref 0), (1, .int wh), (2, .int td)]) (st1 := [.int 4, .int 4]) (w1 := (WM MA MS Mh v)) (by decide +kernel) rfl ?_
          refine M.icmp_ge (off := 42) (tgt := 65) (nx := 26) (by decide +kernel) (fun _ => ?_) (fun h => absurd h (by decide))
          have hnr : (((((1 : Int32) <<< ((nI k) &&& 31)) ||| b38) ||| b38_) ||| b38__) ||| b38___ = nrI r c k := by rw [hb38, hb38_, hb38__, hb38___]; rfl
          rw [hnr]
          refine M.blk (is := [(.iload_n 1, 1, 0, 0), (.iload_n 3, 3, 0, 0), (.iconst (-1), 0, 0, (-1)), (.ixor, 0, 0, 0), (.iand, 0, 0, 0), (.istore 4, 4, 0, 0), (.aload_n 0, 0, 0, 0), (.aload_n 0, 0, 0, 0), (.getfield 92, 4, 9, 0), (.iload 4, 4, 0, 0), (.iconst (-1), 0, 0, (-1)), (.ixor, 0, 0, 0), (.iand, 0, 0, 0), (.iload_n 2, 2, 0, 0), (.iload 4, 4, 0, 0), (.iand, 0, 0, 0), (.ior, 0, 0, 0), (.putfield 92, 4, 9, 0), (.iconst 0, 0, 0, 0), (.istore 5, 5, 0, 0)]) (pc1 := 93) (lo1 := [(5, .int 0), (4, .int (wh &&& ((nrI r c k) ^^^ (-1)))), (3, .int (nrI r c k)), (0, .ref 0), (1, .int wh), (2, .int td)]) (st1 := []) (w1 := (WM MA (upd MS 9 (((MS 9) &&& ((wh &&& ((nrI r c k) ^^^ (-1))) ^^^ (-1))) ||| (td &&& (wh &&& ((nrI r c k) ^^^ (-1)))))) Mh v)) (by decide +kernel) rfl ?_
          refine M.lsub [3, 4, 5, 2, 0] (lo1 := [(0, .ref 0), (1, .int wh), (2, .int td), (3, .int (nrI r c k)), (5, .int 0)]) rfl ?_
          exact lp (r * c) 0 (by omega)
        refine M.icmp_ne (off := 7) (tgt := 45) (nx := 41) (by decide +kernel) (fun z38 => ?_) (fun z38 => ?_)
        · refine M.blk (is := [(.iconst 1, 0, 0, 1), (.aload_n 0, 0, 0, 0), (.aload_n 0, 0, 0, 0), (.getfield 95, 4, 11, 0), (.iload 4, 4, 0, 0)]) (pc1 := 53) (lo1 := [(4, .int 3), (3, .int (((((1 : Int32) <<< ((nI k) &&& 31)) ||| b38) ||| b38_) ||| b38__)), (0, .ref 0), (1, .int wh), (2, .int td)]) (st1 := [.int 3, .int (MS 11), .ref 0, .int 1, .int (((((1 : Int32) <<< ((nI k) &&& 31)) ||| b38) ||| b38_) ||| b38__)]) (w1 := (WM MA MS Mh v)) (by decide +kernel) rfl ?_
          rw [hfs.1]
          refine M.callVi (as := [.int (nI k), .int 3]) (st := [.int 1, .int (((((1 : Int32) <<< ((nI k) &&& 31)) ||| b38) ||| b38_) ||| b38__)]) (nx := 56) okX4_beside lkX4_83 (m_beside hgeo hms hk (d := 3) (by decide)) (by decide +kernel) (by decide) rfl (Nat.le_of_ble_eq_true rfl) rfl (by decide) ?_
          refine M.blk (is := [(.ishl, 0, 0, 0)]) (pc1 := 57) (lo1 := [(4, .int 3), (3, .int (((((1 : Int32) <<< ((nI k) &&& 31)) ||| b38) ||| b38_) ||| b38__)), (0, .ref 0), (1, .int wh), (2, .int td)]) (st1 := [.int ((1 : Int32) <<< ((oI (nbO r c k 3)) &&& 31)), .int (((((1 : Int32) <<< ((nI k) &&& 31)) ||| b38) ||| b38_) ||| b38__)]) (w1 := (WM MA MS Mh v)) (by decide +kernel) rfl ?_
          exact j38___ _ (if_pos z38).symm
        · refine M.blk (is := [(.iconst 0, 0, 0, 0), (.goto 15, 57, 0, 0)]) (pc1 := 57) (lo1 := [(4, .int 3), (3, .int (((((1 : Int32) <<< ((nI k) &&& 31)) ||| b38) ||| b38_) ||| b38__)), (0, .ref 0), (1, .int wh), (2, .int td)]) (st1 := [.int 0, .int (((((1 : Int32) <<< ((nI k) &&& 31)) ||| b38) ||| b38_) ||| b38__)]) (w1 := (WM MA MS Mh v)) (by decide +kernel) rfl ?_
          exact j38___ _ (if_neg (fun h => h z38)).symm
      refine M.icmp_ne (off := 7) (tgt := 45) (nx := 41) (by decide +kernel) (fun z38 => ?_) (fun z38 => ?_)
      · refine M.blk (is := [(.iconst 1, 0, 0, 1), (.aload_n 0, 0, 0, 0), (.aload_n 0, 0, 0, 0), (.getfield 95, 4, 11, 0), (.iload 4, 4, 0, 0)]) (pc1 := 53) (lo1 := [(4, .int 2), (3, .int ((((1 : Int32) <<< ((nI k) &&& 31)) ||| b38) ||| b38_)), (0, .ref 0), (1, .int wh), (2, .int td)]) (st1 := [.int 2, .int (MS 11), .ref 0, .int 1, .int ((((1 : Int32) <<< ((nI k) &&& 31)) ||| b38) ||| b38_)]) (w1 := (WM MA MS Mh v)) (by decide +kernel) rfl ?_
        rw [hfs.1]
        refine M.callVi (as := [.int (nI k), .int 2]) (st := [.int 1, .int ((((1 : Int32) <<< ((nI k) &&& 31)) ||| b38) ||| b38_)]) (nx := 56) okX4_beside lkX4_83 (m_beside hgeo hms hk (d := 2) (by decide)) (by decide +kernel) (by decide) rfl (Nat.le_of_ble_eq_true rfl) rfl (by decide) ?_
        refine M.blk (is := [(.ishl, 0, 0, 0)]) (pc1 := 57) (lo1 := [(4, .int 2), (3, .int ((((1 : Int32) <<< ((nI k) &&& 31)) ||| b38) ||| b38_)), (0, .ref 0), (1, .int wh), (2, .int td)]) (st1 := [.int ((1 : Int32) <<< ((oI (nbO r c k 2)) &&& 31)), .int ((((1 : Int32) <<< ((nI k) &&& 31)) ||| b38) ||| b38_)]) (w1 := (WM MA MS Mh v)) (by decide +kernel) rfl ?_
        exact j38__ _ (if_pos z38).symm
      · refine M.blk (is := [(.iconst 0, 0, 0, 0), (.goto 15, 57, 0, 0)]) (pc1 := 57) (lo1 := [(4, .int 2), (3, .int ((((1 : Int32) <<< ((nI k) &&& 31)) ||| b38) ||| b38_)), (0, .ref 0), (1, .int wh), (2, .int td)]) (st1 := [.int 0, .int ((((1 : Int32) <<< ((nI k) &&& 31)) ||| b38) ||| b38_)]) (w1 := (WM MA MS Mh v)) (by decide +kernel) rfl ?_
        exact j38__ _ (if_neg (fun h => h z38)).symm
    refine M.icmp_ne (off := 7) (tgt := 45) (nx := 41) (by decide +kernel) (fun z38 => ?_) (fun z38 => ?_)
    · refine M.blk (is := [(.iconst 1, 0, 0, 1), (.aload_n 0, 0, 0, 0), (.aload_n 0, 0, 0, 0), (.getfield 95, 4, 11, 0), (.iload 4, 4, 0, 0)]) (pc1 := 53) (lo1 := [(4, .int 1), (3, .int (((1 : Int32) <<< ((nI k) &&& 31)) ||| b38)), (0, .ref 0), (1, .int wh), (2, .int td)]) (st1 := [.int 1, .int (MS 11), .ref 0, .int 1, .int (((1 : Int32) <<< ((nI k) &&& 31)) ||| b38)]) (w1 := (WM MA MS Mh v)) (by decide +kernel) rfl ?_
      rw [hfs.1]
      refine M.callVi (as := [.int (nI k), .int 1]) (st := [.int 1, .int (((1 : Int32) <<< ((nI k) &&& 31)) ||| b38)]) (nx := 56) okX4_beside lkX4_83 (m_beside hgeo hms hk (d := 1) (by decide)) (by decide +kernel) (by decide) rfl (Nat.le_of_ble_eq_true rfl) rfl (by decide) ?_
      refine M.blk (is := [(.ishl, 0, 0, 0)]) (pc1 := 57) (lo1 := [(4, .int 1), (3, .int (((1 : Int32) <<< ((nI k) &&& 31)) ||| b38)), (0, .ref 0), (1, .int wh), (2, .int td)]) (st1 := [.int ((1 : Int32) <<< ((oI (nbO r c k 1)) &&& 31)), .int (((1 : Int32) <<< ((nI k) &&& 31)) ||| b38)]) (w1 := (WM MA MS Mh v)) (by decide +kernel) rfl ?_
      exact j38_ _ (if_pos z38).symm
    · refine M.blk (is := [(.iconst 0, 0, 0, 0), (.goto 15, 57, 0, 0)]) (pc1 := 57) (lo1 := [(4, .int 1), (3, .int (((1 : Int32) <<< ((nI k) &&& 31)) ||| b38)), (0, .ref 0), (1, .int wh), (2, .int td)]) (st1 := [.int 0, .int (((1 : Int32) <<< ((nI k) &&& 31)) ||| b38)]) (w1 := (WM MA MS Mh v)) (by decide +kernel) rfl ?_
      exact j38_ _ (if_neg (fun h => h z38)).symm
  refine M.icmp_ne (off := 7) (tgt := 45) (nx := 41) (by decide +kernel) (fun z38 => ?_) (fun z38 => ?_)
  · refine M.blk (is := [(.iconst 1, 0, 0, 1), (.aload_n 0, 0, 0, 0), (.aload_n 0, 0, 0, 0), (.getfield 95, 4, 11, 0), (.iload 4, 4, 0, 0)]) (pc1 := 53) (lo1 := [(4, .int 0), (3, .int ((1 : Int32) <<< ((nI k) &&& 31))), (0, .ref 0), (1, .int wh), (2, .int td)]) (st1 := [.int 0, .int (MS 11), .ref 0, .int 1, .int ((1 : Int32) <<< ((nI k) &&& 31))]) (w1 := (WM MA MS Mh v)) (by decide +kernel) rfl ?_
    rw [hfs.1]
    refine M.callVi (as := [.int (nI k), .int 0]) (st := [.int 1, .int ((1 : Int32) <<< ((nI k) &&& 31))]) (nx := 56) okX4_beside lkX4_83 (m_beside hgeo hms hk (d := 0) (by decide)) (by decide +kernel) (by decide) rfl (Nat.le_of_ble_eq_true rfl) rfl (by decide) ?_
    refine M.blk (is := [(.ishl, 0, 0, 0)]) (pc1 := 57) (lo1 := [(4, .int 0), (3, .int ((1 : Int32) <<< ((nI k) &&& 31))), (0, .ref 0), (1, .int wh), (2, .int td)]) (st1 := [.int ((1 : Int32) <<< ((oI (nbO r c k 0)) &&& 31)), .int ((1 : Int32) <<< ((nI k) &&& 31))]) (w1 := (WM MA MS Mh v)) (by decide +kernel) rfl ?_
    exact j38 _ (if_pos z38).symm
  · refine M.blk (is := [(.iconst 0, 0, 0, 0), (.goto 15, 57, 0, 0)]) (pc1 := 57) (lo1 := [(4, .int 0), (3, .int ((1 : Int32) <<< ((nI k) &&& 31))), (0, .ref 0), (1, .int wh), (2, .int td)]) (st1 := [.int 0, .int ((1 : Int32) <<< ((nI k) &&& 31))]) (w1 := (WM MA MS Mh v)) (by decide +kernel) rfl ?_
    exact j38 _ (if_neg (fun h => h z38)).symm
theorem m_writeAllN {r c f h t : Nat} (hgeo : GeoOk r c f h t) (hms : MSok r c f h t MS) (h11 : MS 11 = -1) (wh td : Int32) : CC 5 mX4_writeAll 0 0 [.ref 0, .int wh, .int td] (WM MA MS Mh v) (Rv (WM MA (upd (upd MS 9 (plI wh 0 td (MS 9))) 10 (shI wh td (MS 10))) Mh v)) := by
  have h25 : r * c ≤ 25 := Nat.mul_le_mul hgeo.1.2 hgeo.2.1.2
  have h9a : 9 ≤ r * c := Nat.mul_le_mul hgeo.1.1 hgeo.2.1.1
  refine CC.of okX4_writeAll.1 (Nat.le_of_ble_eq_true rfl) (fun g M => ?_)
  show g 0 0 0 [(0, .ref 0), (1, .int wh), (2, .int td)] [] (WM MA MS Mh v)
  refine M.blk (is := [(.iconst 0, 0, 0, 0), (.istore_n 3, 3, 0, 0), (.aload_n 0, 0, 0, 0), (.getfield 95, 4, 11, 0), (.iconst (-1), 0, 0, (-1))]) (pc1 := 7) (lo1 := [(3, .int 0), (0, .ref 0), (1, .int wh), (2, .int td)]) (st1 := [.int (-1), .int (MS 11)]) (w1 := (WM MA MS Mh v)) (by decide +kernel) rfl ?_
  refine M.icmp_eq (off := 58) (tgt := 65) (nx := 10) (by decide +kernel) (fun z7 => ?_) (fun z7 => by exfalso; exact z7 h11)
  refine M.blk (is := [(.iload_n 1, 1, 0, 0), (.iload_n 3, 3, 0, 0), (.iconst (-1), 0, 0, (-1)), (.ixor, 0, 0, 0), (.iand, 0, 0, 0), (.istore 4, 4, 0, 0), (.aload_n 0, 0, 0, 0), (.aload_n 0, 0, 0, 0), (.getfield 92, 4, 9, 0), (.iload 4, 4, 0, 0), (.iconst (-1), 0, 0, (-1)), (.ixor, 0, 0, 0), (.iand, 0, 0, 0), (.iload_n 2, 2, 0, 0), (.iload 4, 4, 0, 0), (.iand, 0, 0, 0), (.ior, 0, 0, 0), (.putfield 92, 4, 9, 0), (.iconst 0, 0, 0, 0), (.istore 5, 5, 0, 0), (.iload 5, 5, 0, 0), (.aload_n 0, 0, 0, 0)]) (pc1 := 96) (lo1 := [(5, .int 0), (4, .int (wh &&& (0 ^^^ (-1)))), (3, .int 0), (0, .ref 0), (1, .int wh), (2, .int td)]) (st1 := [.ref 0, .int 0]) (w1 := (WM MA (upd MS 9 (((MS 9) &&& ((wh &&& (0 ^^^ (-1))) ^^^ (-1))) ||| (td &&& (wh &&& (0 ^^^ (-1)))))) Mh v)) (by decide +kernel) rfl ?_
  refine M.callVi (as := []) (st := [.int 0]) (nx := 99) okX4_cells lkX4_57 (m_cells (MS := (upd MS 9 (((MS 9) &&& ((wh &&& (0 ^^^ (-1))) ^^^ (-1))) ||| (td &&& (wh &&& (0 ^^^ (-1))))))) hms.1 hms.2.1) (by decide +kernel) (by decide) rfl (Nat.le_of_ble_eq_true rfl) rfl (by decide) ?_
  refine M.icmp_ge (off := 36) (tgt := 135) (nx := 102) (by decide +kernel) (fun z99 => by exfalso; exact nI_ge (a := 0) (show 0 < r * c by omega) (by omega) z99) (fun z99 => ?_)
  refine M.blk (is := [(.iload_n 3, 3, 0, 0)]) (pc1 := 103) (lo1 := [(5, .int 0), (4, .int (wh &&& (0 ^^^ (-1)))), (3, .int 0), (0, .ref 0), (1, .int wh), (2, .int td)]) (st1 := [.int 0]) (w1 := (WM MA (upd MS 9 (((MS 9) &&& ((wh &&& (0 ^^^ (-1))) ^^^ (-1))) ||| (td &&& (wh &&& (0 ^^^ (-1)))))) Mh v)) (by decide +kernel) rfl ?_
  refine M.if_eq (off := 32) (tgt := 135) (nx := 106) (by decide +kernel) (fun _ => ?_) (fun h => absurd h (by decide))
  refine M.blk (is := [(.aload_n 0, 0, 0, 0), (.aload_n 0, 0, 0, 0), (.getfield 136, 4, 10, 0), (.iload_n 1, 1, 0, 0), (.iconst (-1), 0, 0, (-1)), (.ixor, 0, 0, 0), (.iand, 0, 0, 0), (.iload_n 2, 2, 0, 0), (.iload_n 1, 1, 0, 0), (.iand, 0, 0, 0), (.ior, 0, 0, 0), (.putfield 136, 4, 10, 0)]) (pc1 := 151) (lo1 := [(5, .int 0), (4, .int (wh &&& (0 ^^^ (-1)))), (3, .int 0), (0, .ref 0), (1, .int wh), (2, .int td)]) (st1 := []) (w1 := (WM MA (upd (upd MS 9 (((MS 9) &&& ((wh &&& (0 ^^^ (-1))) ^^^ (-1))) ||| (td &&& (wh &&& (0 ^^^ (-1)))))) 10 (((MS 10) &&& (wh ^^^ (-1))) ||| (td &&& wh))) Mh v)) (by decide +kernel) rfl ?_
  exact M.retv (nx := 152) (by decide +kernel) ⟨rfl, rfl⟩
theorem m_ofType {r c f h t : Nat} (hgeo : GeoOk r c f h t) (hms : MSok r c f h t MS) {x : Nat} (hx : x < 5) : CC 1 mX4_ofType 0 0 [.ref 0, .int (nI x)] (WM MA MS Mh v) (Rt (nI (mkT c x (r * c))) (WM MA MS Mh v)) := by
  have h25 : r * c ≤ 25 := Nat.mul_le_mul hgeo.1.2 hgeo.2.1.2
  have h9a : 9 ≤ r * c := Nat.mul_le_mul hgeo.1.1 hgeo.2.1.1
  refine CC.of okX4_ofType.1 (Nat.le_of_ble_eq_true rfl) (fun g M => ?_)
  have lp : ∀ m j, j + m = r * c → g 0 0 4 [(0, .ref 0), (1, .int (nI x)), (2, .int (nI (mkT c x j))), (3, .int (nI j))] [] (WM MA MS Mh v) := by
    intro m
    induction m with
    | zero =>
      intro j hj
      have ej : r * c = j := by omega
      rw [← ej]
      refine M.blk (is := [(.iload_n 3, 3, 0, 0), (.aload_n 0, 0, 0, 0)]) (pc1 := 6) (lo1 := [(0, .ref 0), (1, .int (nI x)), (2, .int (nI (mkT c x (r * c)))), (3, .int (nI (r * c)))]) (st1 := [.ref 0, .int (nI (r * c))]) (w1 := (WM MA MS Mh v)) (by decide +kernel) rfl ?_
      refine M.callVi (as := []) (st := [.int (nI (r * c))]) (nx := 9) okX4_cells lkX4_57 (m_cells hms.1 hms.2.1) (by decide +kernel) (by decide) rfl (Nat.le_of_ble_eq_true rfl) rfl (by decide) ?_
      refine M.icmp_ge (off := 28) (tgt := 37) (nx := 12) (by decide +kernel) (fun z9 => ?_) (fun z9 => by exfalso; exact z9 (nI_le (Nat.le_refl _) (by omega)))
      refine M.blk (is := [(.iload_n 2, 2, 0, 0)]) (pc1 := 38) (lo1 := [(0, .ref 0), (1, .int (nI x)), (2, .int (nI (mkT c x (r * c)))), (3, .int (nI (r * c)))]) (st1 := [.int (nI (mkT c x (r * c)))]) (w1 := (WM MA MS Mh v)) (by decide +kernel) rfl ?_
      exact M.reti (nx := 39) (by decide +kernel) ⟨rfl, rfl⟩
    | succ m ih =>
      intro j hj
      have ht5 : tyN c j < 5 := Nat.mod_lt _ (by decide)
      refine M.blk (is := [(.iload_n 3, 3, 0, 0), (.aload_n 0, 0, 0, 0)]) (pc1 := 6) (lo1 := [(0, .ref 0), (1, .int (nI x)), (2, .int (nI (mkT c x j))), (3, .int (nI j))]) (st1 := [.ref 0, .int (nI j)]) (w1 := (WM MA MS Mh v)) (by decide +kernel) rfl ?_
      refine M.callVi (as := []) (st := [.int (nI j)]) (nx := 9) okX4_cells lkX4_57 (m_cells hms.1 hms.2.1) (by decide +kernel) (by decide) rfl (Nat.le_of_ble_eq_true rfl) rfl (by decide) ?_
      refine M.icmp_ge (off := 28) (tgt := 37) (nx := 12) (by decide +kernel) (fun z9 => by exfalso; exact nI_ge (show j < r * c by omega) (by omega) z9) (fun z9 => ?_)
      refine M.blk (is := [(.iload_n 2, 2, 0, 0), (.aload_n 0, 0, 0, 0), (.iload_n 3, 3, 0, 0)]) (pc1 := 15) (lo1 := [(0, .ref 0), (1, .int (nI x)), (2, .int (nI (mkT c x j))), (3, .int (nI j))]) (st1 := [.int (nI j), .ref 0, .int (nI (mkT c x j))]) (w1 := (WM MA MS Mh v)) (by decide +kernel) rfl ?_
      refine M.callVi (as := [.int (nI j)]) (st := [.int (nI (mkT c x j))]) (nx := 18) okX4_typeOf lkX4_74 (m_typeOf hgeo hms (k := j) (by omega)) (by decide +kernel) (by decide) rfl (Nat.le_of_ble_eq_true rfl) rfl (by decide) ?_
      refine M.blk (is := [(.iload_n 1, 1, 0, 0)]) (pc1 := 19) (lo1 := [(0, .ref 0), (1, .int (nI x)), (2, .int (nI (mkT c x j))), (3, .int (nI j))]) (st1 := [.int (nI x), .int (nI (tyN c j)), .int (nI (mkT c x j))]) (w1 := (WM MA MS Mh v)) (by decide +kernel) rfl ?_
      have j19 : ∀ b19 : Int32, b19 = (if ¬ nI (tyN c j) = nI x then (0 : Int32) else (1 : Int32) <<< ((nI j) &&& 31)) → g 0 0 29 [(0, .ref 0), (1, .int (nI x)), (2, .int (nI (mkT c x j))), (3, .int (nI j))] [.int b19, .int (nI (mkT c x j))] (WM MA MS Mh v) := by
        intro b19 hb19
        refine M.blk (is := [(.ior, 0, 0, 0), (.istore_n 2, 2, 0, 0), (.iinc 3 1, 3, 0, 1), (.goto (-30), 4, 0, 0)]) (pc1 := 4) (lo1 := [(3, .int ((nI j) + 1)), (2, .int ((nI (mkT c x j)) ||| b19)), (0, .ref 0), (1, .int (nI x))]) (st1 := []) (w1 := (WM MA MS Mh v)) (by decide +kernel) rfl ?_
        refine M.lsub [2, 3, 1, 0] (lo1 := [(0, .ref 0), (1, .int (nI x)), (2, .int ((nI (mkT c x j)) ||| b19)), (3, .int ((nI j) + 1))]) rfl ?_
        have e := ih (j + 1) (by omega)
        rw [show mkT c x (j + 1) = mkT c x j + (if tyN c j = x then 2 ^ j else 0) from rfl] at e
        have eb : nI (mkT c x j) ||| b19 = nI (mkT c x j + (if tyN c j = x then 2 ^ j else 0)) := by
          rw [hb19]
          by_cases ht : tyN c j = x
          · rw [if_neg (fun h => h (by rw [ht])), if_pos ht, shl1 (by omega), nI_or_pow (mkT_lt c x j)]
          · rw [if_pos (fun h => ht (nI_inj (by omega) (by omega) h)), if_neg ht, show (0 : Int32) = nI 0 from rfl, nI_or, Nat.or_zero]; rfl
        rw [nI_1, eb]
        exact e
      refine M.icmp_ne (off := 9) (tgt := 28) (nx := 22) (by decide +kernel) (fun z19 => ?_) (fun z19 => ?_)
      · refine M.blk (is := [(.iconst 0, 0, 0, 0)]) (pc1 := 29) (lo1 := [(0, .ref 0), (1, .int (nI x)), (2, .int (nI (mkT c x j))), (3, .int (nI j))]) (st1 := [.int 0, .int (nI (mkT c x j))]) (w1 := (WM MA MS Mh v)) (by decide +kernel) rfl ?_
        exact j19 _ (if_pos z19).symm
      · refine M.blk (is := [(.iconst 1, 0, 0, 1), (.iload_n 3, 3, 0, 0), (.ishl, 0, 0, 0), (.goto 4, 29, 0, 0)]) (pc1 := 29) (lo1 := [(0, .ref 0), (1, .int (nI x)), (2, .int (nI (mkT c x j))), (3, .int (nI j))]) (st1 := [.int ((1 : Int32) <<< ((nI j) &&& 31)), .int (nI (mkT c x j))]) (w1 := (WM MA MS Mh v)) (by decide +kernel) rfl ?_
        exact j19 _ (if_neg (fun h => h z19)).symm
  show g 0 0 0 [(0, .ref 0), (1, .int (nI x))] [] (WM MA MS Mh v)
  refine M.blk (is := [(.iconst 0, 0, 0, 0), (.istore_n 2, 2, 0, 0), (.iconst 0, 0, 0, 0), (.istore_n 3, 3, 0, 0)]) (pc1 := 4) (lo1 := [(3, .int 0), (2, .int 0), (0, .ref 0), (1, .int (nI x))]) (st1 := []) (w1 := (WM MA MS Mh v)) (by decide +kernel) rfl ?_
  refine M.lsub [2, 3, 1, 0] (lo1 := [(0, .ref 0), (1, .int (nI x)), (2, .int 0), (3, .int 0)]) rfl ?_
  exact lp (r * c) 0 (by omega)
def lkS (wr B x : Int32) (z : Int32 × Int32 × Int32 × Int32) (j : Nat) : Int32 × Int32 × Int32 × Int32 := match j with
  | 0 => z
  | j + 1 => if bt wr j = true then ((if ¬ (lkS wr B x z j).2.2.2 = 0 then (lkS wr B x z j).1 else nI j), (if ¬ (lkS wr B x z j).2.2.2 = 0 then (lkS wr B x z j).2.1 else x), (if ¬ (lkS wr B x z j).2.2.2 = 0 then (lkS wr B x z j).2.2.1 else nI (bN B j)), (lkS wr B x z j).2.2.2 + 1) else lkS wr B x z j
theorem lkS_t {wr B x : Int32} {z : Int32 × Int32 × Int32 × Int32} {j : Nat} (h : bt wr j = true) : lkS wr B x z (j + 1) = ((if ¬ (lkS wr B x z j).2.2.2 = 0 then (lkS wr B x z j).1 else nI j), (if ¬ (lkS wr B x z j).2.2.2 = 0 then (lkS wr B x z j).2.1 else x), (if ¬ (lkS wr B x z j).2.2.2 = 0 then (lkS wr B x z j).2.2.1 else nI (bN B j)), (lkS wr B x z j).2.2.2 + 1) := by
  show (if bt wr j = true then _ else _) = _
  rw [if_pos h]
theorem lkS_f {wr B x : Int32} {z : Int32 × Int32 × Int32 × Int32} {j : Nat} (h : ¬ bt wr j = true) : lkS wr B x z (j + 1) = lkS wr B x z j := by
  show (if bt wr j = true then _ else _) = _
  rw [if_neg h]
theorem m_look {r c f h t : Nat} (hgeo : GeoOk r c f h t) (hms : MSok r c f h t MS) (x : Int32) : CC 1 mX4_look 0 0 [.ref 0, .int x] (WM MA MS Mh v) (Rv (WM MA (upd (upd (upd (upd (upd MS 18 ((lkS (MS 9 ^^^ MS 10) (MS 9) x (MS 18, MS 17, MS 19, MS 20) (r * c)).1)) 17 ((lkS (MS 9 ^^^ MS 10) (MS 9) x (MS 18, MS 17, MS 19, MS 20) (r * c)).2.1)) 19 ((lkS (MS 9 ^^^ MS 10) (MS 9) x (MS 18, MS 17, MS 19, MS 20) (r * c)).2.2.1)) 20 ((lkS (MS 9 ^^^ MS 10) (MS 9) x (MS 18, MS 17, MS 19, MS 20) (r * c)).2.2.2)) 21 (MS 21 ||| (MS 9 ^^^ MS 10))) Mh v)) := by
  have h25 : r * c ≤ 25 := Nat.mul_le_mul hgeo.1.2 hgeo.2.1.2
  have h9a : 9 ≤ r * c := Nat.mul_le_mul hgeo.1.1 hgeo.2.1.1
  refine CC.of okX4_look.1 (Nat.le_of_ble_eq_true rfl) (fun g M => ?_)
  have lp : ∀ m j, j + m = r * c → g 0 0 12 [(0, .ref 0), (1, .int x), (2, .int (MS 9 ^^^ MS 10)), (3, .int (nI j))] [] (WM MA (upd (upd (upd (upd MS 18 ((lkS (MS 9 ^^^ MS 10) (MS 9) x (MS 18, MS 17, MS 19, MS 20) j).1)) 17 ((lkS (MS 9 ^^^ MS 10) (MS 9) x (MS 18, MS 17, MS 19, MS 20) j).2.1)) 19 ((lkS (MS 9 ^^^ MS 10) (MS 9) x (MS 18, MS 17, MS 19, MS 20) j).2.2.1)) 20 ((lkS (MS 9 ^^^ MS 10) (MS 9) x (MS 18, MS 17, MS 19, MS 20) j).2.2.2)) Mh v) := by
    intro m
    induction m with
    | zero =>
      intro j hj
      have ej : r * c = j := by omega
      rw [← ej]
      refine M.blk (is := [(.iload_n 3, 3, 0, 0), (.aload_n 0, 0, 0, 0)]) (pc1 := 14) (lo1 := [(0, .ref 0), (1, .int x), (2, .int (MS 9 ^^^ MS 10)), (3, .int (nI (r * c)))]) (st1 := [.ref 0, .int (nI (r * c))]) (w1 := (WM MA (upd (upd (upd (upd MS 18 ((lkS (MS 9 ^^^ MS 10) (MS 9) x (MS 18, MS 17, MS 19, MS 20) (r * c)).1)) 17 ((lkS (MS 9 ^^^ MS 10) (MS 9) x (MS 18, MS 17, MS 19, MS 20) (r * c)).2.1)) 19 ((lkS (MS 9 ^^^ MS 10) (MS 9) x (MS 18, MS 17, MS 19, MS 20) (r * c)).2.2.1)) 20 ((lkS (MS 9 ^^^ MS 10) (MS 9) x (MS 18, MS 17, MS 19, MS 20) (r * c)).2.2.2)) Mh v)) (by decide +kernel) rfl ?_
      refine M.callVi (as := []) (st := [.int (nI (r * c))]) (nx := 17) okX4_cells lkX4_57 (m_cells (MS := (upd (upd (upd (upd MS 18 ((lkS (MS 9 ^^^ MS 10) (MS 9) x (MS 18, MS 17, MS 19, MS 20) (r * c)).1)) 17 ((lkS (MS 9 ^^^ MS 10) (MS 9) x (MS 18, MS 17, MS 19, MS 20) (r * c)).2.1)) 19 ((lkS (MS 9 ^^^ MS 10) (MS 9) x (MS 18, MS 17, MS 19, MS 20) (r * c)).2.2.1)) 20 ((lkS (MS 9 ^^^ MS 10) (MS 9) x (MS 18, MS 17, MS 19, MS 20) (r * c)).2.2.2))) hms.1 hms.2.1) (by decide +kernel) (by decide) rfl (Nat.le_of_ble_eq_true rfl) rfl (by decide) ?_
      refine M.icmp_ge (off := 91) (tgt := 108) (nx := 20) (by decide +kernel) (fun z17 => ?_) (fun z17 => by exfalso; exact z17 (nI_le (Nat.le_refl _) (by omega)))
      refine M.blk (is := [(.aload_n 0, 0, 0, 0), (.dup, 0, 0, 0), (.getfield 151, 4, 21, 0), (.iload_n 2, 2, 0, 0), (.ior, 0, 0, 0), (.putfield 151, 4, 21, 0)]) (pc1 := 118) (lo1 := [(0, .ref 0), (1, .int x), (2, .int (MS 9 ^^^ MS 10)), (3, .int (nI (r * c)))]) (st1 := []) (w1 := (WM MA (upd (upd (upd (upd (upd MS 18 ((lkS (MS 9 ^^^ MS 10) (MS 9) x (MS 18, MS 17, MS 19, MS 20) (r * c)).1)) 17 ((lkS (MS 9 ^^^ MS 10) (MS 9) x (MS 18, MS 17, MS 19, MS 20) (r * c)).2.1)) 19 ((lkS (MS 9 ^^^ MS 10) (MS 9) x (MS 18, MS 17, MS 19, MS 20) (r * c)).2.2.1)) 20 ((lkS (MS 9 ^^^ MS 10) (MS 9) x (MS 18, MS 17, MS 19, MS 20) (r * c)).2.2.2)) 21 ((MS 21) ||| (MS 9 ^^^ MS 10))) Mh v)) (by decide +kernel) rfl ?_
      exact M.retv (nx := 119) (by decide +kernel) ⟨rfl, rfl⟩
    | succ m ih =>
      intro j hj
      refine M.blk (is := [(.iload_n 3, 3, 0, 0), (.aload_n 0, 0, 0, 0)]) (pc1 := 14) (lo1 := [(0, .ref 0), (1, .int x), (2, .int (MS 9 ^^^ MS 10)), (3, .int (nI j))]) (st1 := [.ref 0, .int (nI j)]) (w1 := (WM MA (upd (upd (upd (upd MS 18 ((lkS (MS 9 ^^^ MS 10) (MS 9) x (MS 18, MS 17, MS 19, MS 20) j).1)) 17 ((lkS (MS 9 ^^^ MS 10) (MS 9) x (MS 18, MS 17, MS 19, MS 20) j).2.1)) 19 ((lkS (MS 9 ^^^ MS 10) (MS 9) x (MS 18, MS 17, MS 19, MS 20) j).2.2.1)) 20 ((lkS (MS 9 ^^^ MS 10) (MS 9) x (MS 18, MS 17, MS 19, MS 20) j).2.2.2)) Mh v)) (by decide +kernel) rfl ?_
      refine M.callVi (as := []) (st := [.int (nI j)]) (nx := 17) okX4_cells lkX4_57 (m_cells (MS := (upd (upd (upd (upd MS 18 ((lkS (MS 9 ^^^ MS 10) (MS 9) x (MS 18, MS 17, MS 19, MS 20) j).1)) 17 ((lkS (MS 9 ^^^ MS 10) (MS 9) x (MS 18, MS 17, MS 19, MS 20) j).2.1)) 19 ((lkS (MS 9 ^^^ MS 10) (MS 9) x (MS 18, MS 17, MS 19, MS 20) j).2.2.1)) 20 ((lkS (MS 9 ^^^ MS 10) (MS 9) x (MS 18, MS 17, MS 19, MS 20) j).2.2.2))) hms.1 hms.2.1) (by decide +kernel) (by decide) rfl (Nat.le_of_ble_eq_true rfl) rfl (by decide) ?_
      refine M.icmp_ge (off := 91) (tgt := 108) (nx := 20) (by decide +kernel) (fun z17 => by exfalso; exact nI_ge (show j < r * c by omega) (by omega) z17) (fun z17 => ?_)
      refine M.blk (is := [(.iload_n 2, 2, 0, 0), (.iload_n 3, 3, 0, 0)]) (pc1 := 22) (lo1 := [(0, .ref 0), (1, .int x), (2, .int (MS 9 ^^^ MS 10)), (3, .int (nI j))]) (st1 := [.int (nI j), .int (MS 9 ^^^ MS 10)]) (w1 := (WM MA (upd (upd (upd (upd MS 18 ((lkS (MS 9 ^^^ MS 10) (MS 9) x (MS 18, MS 17, MS 19, MS 20) j).1)) 17 ((lkS (MS 9 ^^^ MS 10) (MS 9) x (MS 18, MS 17, MS 19, MS 20) j).2.1)) 19 ((lkS (MS 9 ^^^ MS 10) (MS 9) x (MS 18, MS 17, MS 19, MS 20) j).2.2.1)) 20 ((lkS (MS 9 ^^^ MS 10) (MS 9) x (MS 18, MS 17, MS 19, MS 20) j).2.2.2)) Mh v)) (by decide +kernel) rfl ?_
      refine M.callSi (as := [.int (MS 9 ^^^ MS 10), .int (nI j)]) (st := []) (nx := 25) okX4_has lkX4_119 (s_hasM (WM MA (upd (upd (upd (upd MS 18 ((lkS (MS 9 ^^^ MS 10) (MS 9) x (MS 18, MS 17, MS 19, MS 20) j).1)) 17 ((lkS (MS 9 ^^^ MS 10) (MS 9) x (MS 18, MS 17, MS 19, MS 20) j).2.1)) 19 ((lkS (MS 9 ^^^ MS 10) (MS 9) x (MS 18, MS 17, MS 19, MS 20) j).2.2.1)) 20 ((lkS (MS 9 ^^^ MS 10) (MS 9) x (MS 18, MS 17, MS 19, MS 20) j).2.2.2)) Mh v) (MS 9 ^^^ MS 10) (nI j)) (by decide +kernel) (by decide) rfl (Nat.le_of_ble_eq_true rfl) ?_
      rw [hb_iff _ (show j < 32 by omega)]
      refine M.if_eq (off := 77) (tgt := 102) (nx := 28) (by decide +kernel) (fun z25 => ?_) (fun z25 => ?_)
      · refine M.blk (is := [(.iinc 3 1, 3, 0, 1), (.goto (-93), 12, 0, 0)]) (pc1 := 12) (lo1 := [(3, .int ((nI j) + 1)), (0, .ref 0), (1, .int x), (2, .int (MS 9 ^^^ MS 10))]) (st1 := []) (w1 := (WM MA (upd (upd (upd (upd MS 18 ((lkS (MS 9 ^^^ MS 10) (MS 9) x (MS 18, MS 17, MS 19, MS 20) j).1)) 17 ((lkS (MS 9 ^^^ MS 10) (MS 9) x (MS 18, MS 17, MS 19, MS 20) j).2.1)) 19 ((lkS (MS 9 ^^^ MS 10) (MS 9) x (MS 18, MS 17, MS 19, MS 20) j).2.2.1)) 20 ((lkS (MS 9 ^^^ MS 10) (MS 9) x (MS 18, MS 17, MS 19, MS 20) j).2.2.2)) Mh v)) (by decide +kernel) rfl ?_
        refine M.lsub [1, 2, 3, 0] (lo1 := [(0, .ref 0), (1, .int x), (2, .int (MS 9 ^^^ MS 10)), (3, .int ((nI j) + 1))]) rfl ?_
        rw [nI_1]
        have e := ih (j + 1) (by omega)
        rw [lkS_f (b2i_f z25)] at e
        exact e
      · refine M.blk (is := [(.aload_n 0, 0, 0, 0), (.aload_n 0, 0, 0, 0), (.getfield 139, 4, 20, 0)]) (pc1 := 33) (lo1 := [(0, .ref 0), (1, .int x), (2, .int (MS 9 ^^^ MS 10)), (3, .int (nI j))]) (st1 := [.int ((lkS (MS 9 ^^^ MS 10) (MS 9) x (MS 18, MS 17, MS 19, MS 20) j).2.2.2), .ref 0]) (w1 := (WM MA (upd (upd (upd (upd MS 18 ((lkS (MS 9 ^^^ MS 10) (MS 9) x (MS 18, MS 17, MS 19, MS 20) j).1)) 17 ((lkS (MS 9 ^^^ MS 10) (MS 9) x (MS 18, MS 17, MS 19, MS 20) j).2.1)) 19 ((lkS (MS 9 ^^^ MS 10) (MS 9) x (MS 18, MS 17, MS 19, MS 20) j).2.2.1)) 20 ((lkS (MS 9 ^^^ MS 10) (MS 9) x (MS 18, MS 17, MS 19, MS 20) j).2.2.2)) Mh v)) (by decide +kernel) rfl ?_
        have j33 : ∀ b33 : Int32, b33 = (if ¬ (lkS (MS 9 ^^^ MS 10) (MS 9) x (MS 18, MS 17, MS 19, MS 20) j).2.2.2 = 0 then ((lkS (MS 9 ^^^ MS 10) (MS 9) x (MS 18, MS 17, MS 19, MS 20) j).1 : Int32) else nI j) → g 0 0 44 [(0, .ref 0), (1, .int x), (2, .int (MS 9 ^^^ MS 10)), (3, .int (nI j))] [.int b33, .ref 0] (WM MA (upd (upd (upd (upd MS 18 ((lkS (MS 9 ^^^ MS 10) (MS 9) x (MS 18, MS 17, MS 19, MS 20) j).1)) 17 ((lkS (MS 9 ^^^ MS 10) (MS 9) x (MS 18, MS 17, MS 19, MS 20) j).2.1)) 19 ((lkS (MS 9 ^^^ MS 10) (MS 9) x (MS 18, MS 17, MS 19, MS 20) j).2.2.1)) 20 ((lkS (MS 9 ^^^ MS 10) (MS 9) x (MS 18, MS 17, MS 19, MS 20) j).2.2.2)) Mh v) := by
          intro b33 hb33
          refine M.blk (is := [(.putfield 142, 4, 18, 0), (.aload_n 0, 0, 0, 0), (.aload_n 0, 0, 0, 0), (.getfield 139, 4, 20, 0)]) (pc1 := 52) (lo1 := [(0, .ref 0), (1, .int x), (2, .int (MS 9 ^^^ MS 10)), (3, .int (nI j))]) (st1 := [.int ((lkS (MS 9 ^^^ MS 10) (MS 9) x (MS 18, MS 17, MS 19, MS 20) j).2.2.2), .ref 0]) (w1 := (WM MA (upd (upd (upd (upd MS 17 ((lkS (MS 9 ^^^ MS 10) (MS 9) x (MS 18, MS 17, MS 19, MS 20) j).2.1)) 19 ((lkS (MS 9 ^^^ MS 10) (MS 9) x (MS 18, MS 17, MS 19, MS 20) j).2.2.1)) 20 ((lkS (MS 9 ^^^ MS 10) (MS 9) x (MS 18, MS 17, MS 19, MS 20) j).2.2.2)) 18 b33) Mh v)) (by decide +kernel) rfl ?_
          have j52 : ∀ b52 : Int32, b52 = (if ¬ (lkS (MS 9 ^^^ MS 10) (MS 9) x (MS 18, MS 17, MS 19, MS 20) j).2.2.2 = 0 then ((lkS (MS 9 ^^^ MS 10) (MS 9) x (MS 18, MS 17, MS 19, MS 20) j).2.1 : Int32) else x) → g 0 0 63 [(0, .ref 0), (1, .int x), (2, .int (MS 9 ^^^ MS 10)), (3, .int (nI j))] [.int b52, .ref 0] (WM MA (upd (upd (upd (upd MS 17 ((lkS (MS 9 ^^^ MS 10) (MS 9) x (MS 18, MS 17, MS 19, MS 20) j).2.1)) 19 ((lkS (MS 9 ^^^ MS 10) (MS 9) x (MS 18, MS 17, MS 19, MS 20) j).2.2.1)) 20 ((lkS (MS 9 ^^^ MS 10) (MS 9) x (MS 18, MS 17, MS 19, MS 20) j).2.2.2)) 18 b33) Mh v) := by
            intro b52 hb52
            refine M.blk (is := [(.putfield 145, 4, 17, 0), (.aload_n 0, 0, 0, 0), (.aload_n 0, 0, 0, 0), (.getfield 139, 4, 20, 0)]) (pc1 := 71) (lo1 := [(0, .ref 0), (1, .int x), (2, .int (MS 9 ^^^ MS 10)), (3, .int (nI j))]) (st1 := [.int ((lkS (MS 9 ^^^ MS 10) (MS 9) x (MS 18, MS 17, MS 19, MS 20) j).2.2.2), .ref 0]) (w1 := (WM MA (upd (upd (upd (upd MS 19 ((lkS (MS 9 ^^^ MS 10) (MS 9) x (MS 18, MS 17, MS 19, MS 20) j).2.2.1)) 20 ((lkS (MS 9 ^^^ MS 10) (MS 9) x (MS 18, MS 17, MS 19, MS 20) j).2.2.2)) 18 b33) 17 b52) Mh v)) (by decide +kernel) rfl ?_
            have j71 : ∀ b71 : Int32, b71 = (if ¬ (lkS (MS 9 ^^^ MS 10) (MS 9) x (MS 18, MS 17, MS 19, MS 20) j).2.2.2 = 0 then ((lkS (MS 9 ^^^ MS 10) (MS 9) x (MS 18, MS 17, MS 19, MS 20) j).2.2.1 : Int32) else ((MS 9) >>> ((nI j) &&& 31)) &&& 1) → g 0 0 89 [(0, .ref 0), (1, .int x), (2, .int (MS 9 ^^^ MS 10)), (3, .int (nI j))] [.int b71, .ref 0] (WM MA (upd (upd (upd (upd MS 19 ((lkS (MS 9 ^^^ MS 10) (MS 9) x (MS 18, MS 17, MS 19, MS 20) j).2.2.1)) 20 ((lkS (MS 9 ^^^ MS 10) (MS 9) x (MS 18, MS 17, MS 19, MS 20) j).2.2.2)) 18 b33) 17 b52) Mh v) := by
              intro b71 hb71
              refine M.blk (is := [(.putfield 148, 4, 19, 0), (.aload_n 0, 0, 0, 0), (.dup, 0, 0, 0), (.getfield 139, 4, 20, 0), (.iconst 1, 0, 0, 1), (.iadd, 0, 0, 0), (.putfield 139, 4, 20, 0), (.iinc 3 1, 3, 0, 1), (.goto (-93), 12, 0, 0)]) (pc1 := 12) (lo1 := [(3, .int ((nI j) + 1)), (0, .ref 0), (1, .int x), (2, .int (MS 9 ^^^ MS 10))]) (st1 := []) (w1 := (WM MA (upd (upd (upd (upd MS 18 b33) 17 b52) 19 b71) 20 (((lkS (MS 9 ^^^ MS 10) (MS 9) x (MS 18, MS 17, MS 19, MS 20) j).2.2.2) + 1)) Mh v)) (by decide +kernel) rfl ?_
              refine M.lsub [1, 2, 3, 0] (lo1 := [(0, .ref 0), (1, .int x), (2, .int (MS 9 ^^^ MS 10)), (3, .int ((nI j) + 1))]) rfl ?_
              rw [nI_1]
              have e := ih (j + 1) (by omega)
              rw [lkS_t (b2i_t z25)] at e
              rw [hb33, hb52, hb71, bit_nI (MS 9) (show j < 32 by omega)]
              exact e
            refine M.if_ne (off := 14) (tgt := 85) (nx := 74) (by decide +kernel) (fun z71 => ?_) (fun z71 => ?_)
            · refine M.blk (is := [(.aload_n 0, 0, 0, 0), (.getfield 148, 4, 19, 0)]) (pc1 := 89) (lo1 := [(0, .ref 0), (1, .int x), (2, .int (MS 9 ^^^ MS 10)), (3, .int (nI j))]) (st1 := [.int ((lkS (MS 9 ^^^ MS 10) (MS 9) x (MS 18, MS 17, MS 19, MS 20) j).2.2.1), .ref 0]) (w1 := (WM MA (upd (upd (upd (upd MS 19 ((lkS (MS 9 ^^^ MS 10) (MS 9) x (MS 18, MS 17, MS 19, MS 20) j).2.2.1)) 20 ((lkS (MS 9 ^^^ MS 10) (MS 9) x (MS 18, MS 17, MS 19, MS 20) j).2.2.2)) 18 b33) 17 b52) Mh v)) (by decide +kernel) rfl ?_
              exact j71 _ (if_pos z71).symm
            · refine M.blk (is := [(.aload_n 0, 0, 0, 0), (.getfield 92, 4, 9, 0), (.iload_n 3, 3, 0, 0), (.ishr, 0, 0, 0), (.iconst 1, 0, 0, 1), (.iand, 0, 0, 0), (.goto 7, 89, 0, 0)]) (pc1 := 89) (lo1 := [(0, .ref 0), (1, .int x), (2, .int (MS 9 ^^^ MS 10)), (3, .int (nI j))]) (st1 := [.int (((MS 9) >>> ((nI j) &&& 31)) &&& 1), .ref 0]) (w1 := (WM MA (upd (upd (upd (upd MS 19 ((lkS (MS 9 ^^^ MS 10) (MS 9) x (MS 18, MS 17, MS 19, MS 20) j).2.2.1)) 20 ((lkS (MS 9 ^^^ MS 10) (MS 9) x (MS 18, MS 17, MS 19, MS 20) j).2.2.2)) 18 b33) 17 b52) Mh v)) (by decide +kernel) rfl ?_
              exact j71 _ (if_neg (fun h => h z71)).symm
          refine M.if_ne (off := 7) (tgt := 59) (nx := 55) (by decide +kernel) (fun z52 => ?_) (fun z52 => ?_)
          · refine M.blk (is := [(.aload_n 0, 0, 0, 0), (.getfield 145, 4, 17, 0)]) (pc1 := 63) (lo1 := [(0, .ref 0), (1, .int x), (2, .int (MS 9 ^^^ MS 10)), (3, .int (nI j))]) (st1 := [.int ((lkS (MS 9 ^^^ MS 10) (MS 9) x (MS 18, MS 17, MS 19, MS 20) j).2.1), .ref 0]) (w1 := (WM MA (upd (upd (upd (upd MS 17 ((lkS (MS 9 ^^^ MS 10) (MS 9) x (MS 18, MS 17, MS 19, MS 20) j).2.1)) 19 ((lkS (MS 9 ^^^ MS 10) (MS 9) x (MS 18, MS 17, MS 19, MS 20) j).2.2.1)) 20 ((lkS (MS 9 ^^^ MS 10) (MS 9) x (MS 18, MS 17, MS 19, MS 20) j).2.2.2)) 18 b33) Mh v)) (by decide +kernel) rfl ?_
            exact j52 _ (if_pos z52).symm
          · refine M.blk (is := [(.iload_n 1, 1, 0, 0), (.goto 7, 63, 0, 0)]) (pc1 := 63) (lo1 := [(0, .ref 0), (1, .int x), (2, .int (MS 9 ^^^ MS 10)), (3, .int (nI j))]) (st1 := [.int x, .ref 0]) (w1 := (WM MA (upd (upd (upd (upd MS 17 ((lkS (MS 9 ^^^ MS 10) (MS 9) x (MS 18, MS 17, MS 19, MS 20) j).2.1)) 19 ((lkS (MS 9 ^^^ MS 10) (MS 9) x (MS 18, MS 17, MS 19, MS 20) j).2.2.1)) 20 ((lkS (MS 9 ^^^ MS 10) (MS 9) x (MS 18, MS 17, MS 19, MS 20) j).2.2.2)) 18 b33) Mh v)) (by decide +kernel) rfl ?_
            exact j52 _ (if_neg (fun h => h z52)).symm
        refine M.if_ne (off := 7) (tgt := 40) (nx := 36) (by decide +kernel) (fun z33 => ?_) (fun z33 => ?_)
        · refine M.blk (is := [(.aload_n 0, 0, 0, 0), (.getfield 142, 4, 18, 0)]) (pc1 := 44) (lo1 := [(0, .ref 0), (1, .int x), (2, .int (MS 9 ^^^ MS 10)), (3, .int (nI j))]) (st1 := [.int ((lkS (MS 9 ^^^ MS 10) (MS 9) x (MS 18, MS 17, MS 19, MS 20) j).1), .ref 0]) (w1 := (WM MA (upd (upd (upd (upd MS 18 ((lkS (MS 9 ^^^ MS 10) (MS 9) x (MS 18, MS 17, MS 19, MS 20) j).1)) 17 ((lkS (MS 9 ^^^ MS 10) (MS 9) x (MS 18, MS 17, MS 19, MS 20) j).2.1)) 19 ((lkS (MS 9 ^^^ MS 10) (MS 9) x (MS 18, MS 17, MS 19, MS 20) j).2.2.1)) 20 ((lkS (MS 9 ^^^ MS 10) (MS 9) x (MS 18, MS 17, MS 19, MS 20) j).2.2.2)) Mh v)) (by decide +kernel) rfl ?_
          exact j33 _ (if_pos z33).symm
        · refine M.blk (is := [(.iload_n 3, 3, 0, 0), (.goto 7, 44, 0, 0)]) (pc1 := 44) (lo1 := [(0, .ref 0), (1, .int x), (2, .int (MS 9 ^^^ MS 10)), (3, .int (nI j))]) (st1 := [.int (nI j), .ref 0]) (w1 := (WM MA (upd (upd (upd (upd MS 18 ((lkS (MS 9 ^^^ MS 10) (MS 9) x (MS 18, MS 17, MS 19, MS 20) j).1)) 17 ((lkS (MS 9 ^^^ MS 10) (MS 9) x (MS 18, MS 17, MS 19, MS 20) j).2.1)) 19 ((lkS (MS 9 ^^^ MS 10) (MS 9) x (MS 18, MS 17, MS 19, MS 20) j).2.2.1)) 20 ((lkS (MS 9 ^^^ MS 10) (MS 9) x (MS 18, MS 17, MS 19, MS 20) j).2.2.2)) Mh v)) (by decide +kernel) rfl ?_
          exact j33 _ (if_neg (fun h => h z33)).symm
  show g 0 0 0 [(0, .ref 0), (1, .int x)] [] (WM MA MS Mh v)
  refine M.blk (is := [(.aload_n 0, 0, 0, 0), (.getfield 92, 4, 9, 0), (.aload_n 0, 0, 0, 0), (.getfield 136, 4, 10, 0), (.ixor, 0, 0, 0), (.istore_n 2, 2, 0, 0), (.iconst 0, 0, 0, 0), (.istore_n 3, 3, 0, 0)]) (pc1 := 12) (lo1 := [(3, .int 0), (2, .int ((MS 9) ^^^ (MS 10))), (0, .ref 0), (1, .int x)]) (st1 := []) (w1 := (WM MA MS Mh v)) (by decide +kernel) rfl ?_
  refine M.lsub [2, 3, 1, 0] (lo1 := [(0, .ref 0), (1, .int x), (2, .int ((MS 9) ^^^ (MS 10))), (3, .int 0)]) rfl ?_
  have e := lp (r * c) 0 (by omega)
  exact e
def lsF (r c n : Nat) (B : Int32) (f : Nat → Int32) : Nat → Int32 := fun i => if i < n then f i ||| (1 <<< ((16 * nI (bN B i) + nI (patN r c B i)) &&& 31)) else f i
theorem ls_0 {r c : Nat} {B : Int32} {f : Nat → Int32} : lsF r c 0 B f = f := by funext i; unfold lsF; rw [if_neg (by omega)]
theorem ls_k {r c j : Nat} {B : Int32} {f : Nat → Int32} : lsF r c j B f j = f j := by unfold lsF; rw [if_neg (by omega)]
theorem ls_s {r c j : Nat} {B : Int32} {f : Nat → Int32} : upd (lsF r c j B f) j (f j ||| (1 <<< ((16 * nI (bN B j) + nI (patN r c B j)) &&& 31))) = lsF r c (j + 1) B f := by
  funext i
  by_cases e : i = j
  · subst e; rw [pk_us]; unfold lsF; rw [if_pos (by omega)]
  · rw [pk_un e]; unfold lsF
    simp only [show (i < j + 1) = (i < j) by apply propext; omega]
theorem m_laySeen {r c f h t : Nat} (hgeo : GeoOk r c f h t) (hms : MSok r c f h t MS) (h22 : MS 22 = 1) : CC 3 mX4_laySeen 0 0 [.ref 0] (WM MA MS Mh v) (Rv (WM (va_up MA 23 (lsF r c (r * c) (MS 9) (MA 23))) MS Mh v)) := by
  have h25 : r * c ≤ 25 := Nat.mul_le_mul hgeo.1.2 hgeo.2.1.2
  have h9a : 9 ≤ r * c := Nat.mul_le_mul hgeo.1.1 hgeo.2.1.1
  refine CC.of okX4_laySeen.1 (Nat.le_of_ble_eq_true rfl) (fun g M => ?_)
  have lp : ∀ m j, j + m = r * c → g 0 0 2 [(0, .ref 0), (1, .int (nI j))] [] (WM (va_up MA 23 (lsF r c j (MS 9) (MA 23))) MS Mh v) := by
    intro m
    induction m with
    | zero =>
      intro j hj
      have ej : r * c = j := by omega
      rw [← ej]
      refine M.blk (is := [(.iload_n 1, 1, 0, 0), (.aload_n 0, 0, 0, 0)]) (pc1 := 4) (lo1 := [(0, .ref 0), (1, .int (nI (r * c)))]) (st1 := [.ref 0, .int (nI (r * c))]) (w1 := (WM (va_up MA 23 (lsF r c (r * c) (MS 9) (MA 23))) MS Mh v)) (by decide +kernel) rfl ?_
      refine M.callVi (as := []) (st := [.int (nI (r * c))]) (nx := 7) okX4_cells lkX4_57 (m_cells (MS := MS) hms.1 hms.2.1) (by decide +kernel) (by decide) rfl (Nat.le_of_ble_eq_true rfl) rfl (by decide) ?_
      refine M.icmp_ge (off := 44) (tgt := 51) (nx := 10) (by decide +kernel) (fun z7 => ?_) (fun z7 => by exfalso; exact z7 (nI_le (Nat.le_refl _) (by omega)))
      exact M.retv (nx := 52) (by decide +kernel) ⟨rfl, rfl⟩
    | succ m ih =>
      intro j hj
      refine M.blk (is := [(.iload_n 1, 1, 0, 0), (.aload_n 0, 0, 0, 0)]) (pc1 := 4) (lo1 := [(0, .ref 0), (1, .int (nI j))]) (st1 := [.ref 0, .int (nI j)]) (w1 := (WM (va_up MA 23 (lsF r c j (MS 9) (MA 23))) MS Mh v)) (by decide +kernel) rfl ?_
      refine M.callVi (as := []) (st := [.int (nI j)]) (nx := 7) okX4_cells lkX4_57 (m_cells (MS := MS) hms.1 hms.2.1) (by decide +kernel) (by decide) rfl (Nat.le_of_ble_eq_true rfl) rfl (by decide) ?_
      refine M.icmp_ge (off := 44) (tgt := 51) (nx := 10) (by decide +kernel) (fun z7 => by exfalso; exact nI_ge (show j < r * c by omega) (by omega) z7) (fun z7 => ?_)
      refine M.blk (is := [(.aload_n 0, 0, 0, 0), (.getfield 167, 4, 22, 0)]) (pc1 := 14) (lo1 := [(0, .ref 0), (1, .int (nI j))]) (st1 := [.int (MS 22)]) (w1 := (WM (va_up MA 23 (lsF r c j (MS 9) (MA 23))) MS Mh v)) (by decide +kernel) rfl ?_
      refine M.if_eq (off := 37) (tgt := 51) (nx := 17) (by decide +kernel) (fun z14 => by exfalso; rw [h22] at z14; exact absurd z14 (by decide)) (fun z14 => ?_)
      refine M.blk (is := [(.aload_n 0, 0, 0, 0), (.getfield 26, 4, 23, 0), (.iload_n 1, 1, 0, 0), (.dup2, 0, 0, 0)]) (pc1 := 23) (lo1 := [(0, .ref 0), (1, .int (nI j))]) (st1 := [.int (nI j), .ref 3, .int (nI j), .ref 3]) (w1 := (WM (va_up MA 23 (lsF r c j (MS 9) (MA 23))) MS Mh v)) (by decide +kernel) rfl ?_
      refine M.ald (n := 25) (f := lsF r c j (MS 9) (MA 23)) (j := j) (nx := 24) (by decide +kernel) rfl rfl (by omega) (by decide) ?_
      rw [ls_k]
      refine M.blk (is := [(.iconst 1, 0, 0, 1), (.bipush 16, 0, 0, 16), (.aload_n 0, 0, 0, 0), (.getfield 92, 4, 9, 0), (.iload_n 1, 1, 0, 0), (.ishr, 0, 0, 0), (.iconst 1, 0, 0, 1), (.iand, 0, 0, 0)]) (pc1 := 35) (lo1 := [(0, .ref 0), (1, .int (nI j))]) (st1 := [.int (((MS 9) >>> ((nI j) &&& 31)) &&& 1), .int 16, .int 1, .int (MA 23 j), .int (nI j), .ref 3]) (w1 := (WM (va_up MA 23 (lsF r c j (MS 9) (MA 23))) MS Mh v)) (by decide +kernel) rfl ?_
      rw [bit_nI (MS 9) (show j < 32 by omega)]
      refine M.blk (is := [(.imul, 0, 0, 0), (.aload_n 0, 0, 0, 0), (.iload_n 1, 1, 0, 0)]) (pc1 := 38) (lo1 := [(0, .ref 0), (1, .int (nI j))]) (st1 := [.int (nI j), .ref 0, .int (16 * (nI (bN (MS 9) j))), .int 1, .int (MA 23 j), .int (nI j), .ref 3]) (w1 := (WM (va_up MA 23 (lsF r c j (MS 9) (MA 23))) MS Mh v)) (by decide +kernel) rfl ?_
      refine M.callVi (as := [.int (nI j)]) (st := [.int (16 * (nI (bN (MS 9) j))), .int 1, .int (MA 23 j), .int (nI j), .ref 3]) (nx := 41) okX4_patternOf lkX4_123 (m_patternOf hgeo hms (k := j) (by omega)) (by decide +kernel) (by decide) rfl (Nat.le_of_ble_eq_true rfl) rfl (by decide) ?_
      refine M.blk (is := [(.iadd, 0, 0, 0), (.ishl, 0, 0, 0), (.ior, 0, 0, 0)]) (pc1 := 44) (lo1 := [(0, .ref 0), (1, .int (nI j))]) (st1 := [.int ((MA 23 j) ||| ((1 : Int32) <<< (((16 * (nI (bN (MS 9) j))) + (nI (patN r c (MS 9) j))) &&& 31))), .int (nI j), .ref 3]) (w1 := (WM (va_up MA 23 (lsF r c j (MS 9) (MA 23))) MS Mh v)) (by decide +kernel) rfl ?_
      refine M.ast (n := 25) (f := lsF r c j (MS 9) (MA 23)) (j := j) (nx := 45) (by decide +kernel) rfl rfl (by omega) (by decide) ?_
      show g 0 0 45 [(0, .ref 0), (1, .int (nI j))] [] (WM (va_up MA 23 (upd (lsF r c j (MS 9) (MA 23)) j ((MA 23 j) ||| ((1 : Int32) <<< (((16 * (nI (bN (MS 9) j))) + (nI (patN r c (MS 9) j))) &&& 31))))) MS Mh v)
      refine M.blk (is := [(.iinc 1 1, 1, 0, 1), (.goto (-46), 2, 0, 0)]) (pc1 := 2) (lo1 := [(1, .int ((nI j) + 1)), (0, .ref 0)]) (st1 := []) (w1 := (WM (va_up MA 23 (upd (lsF r c j (MS 9) (MA 23)) j ((MA 23 j) ||| ((1 : Int32) <<< (((16 * (nI (bN (MS 9) j))) + (nI (patN r c (MS 9) j))) &&& 31))))) MS Mh v)) (by decide +kernel) rfl ?_
      refine M.lsub [1, 0] (lo1 := [(0, .ref 0), (1, .int ((nI j) + 1))]) rfl ?_
      rw [nI_1, ls_s]
      exact ih (j + 1) (by omega)
  show g 0 0 0 [(0, .ref 0)] [] (WM MA MS Mh v)
  refine M.blk (is := [(.iconst 0, 0, 0, 0), (.istore_n 1, 1, 0, 0)]) (pc1 := 2) (lo1 := [(1, .int 0), (0, .ref 0)]) (st1 := []) (w1 := (WM MA MS Mh v)) (by decide +kernel) rfl ?_
  refine M.lsub [1, 0] (lo1 := [(0, .ref 0), (1, .int 0)]) rfl ?_
  have e := lp (r * c) 0 (by omega)
  rw [ls_0, va_up_id (f := MA) (k := 23) rfl] at e
  exact e
theorem m_laySeenN {r c f h t : Nat} (hgeo : GeoOk r c f h t) (hms : MSok r c f h t MS) (h22 : MS 22 = 0) : CC 3 mX4_laySeen 0 0 [.ref 0] (WM MA MS Mh v) (Rv (WM MA MS Mh v)) := by
  have h25 : r * c ≤ 25 := Nat.mul_le_mul hgeo.1.2 hgeo.2.1.2
  have h9a : 9 ≤ r * c := Nat.mul_le_mul hgeo.1.1 hgeo.2.1.1
  refine CC.of okX4_laySeen.1 (Nat.le_of_ble_eq_true rfl) (fun g M => ?_)
  show g 0 0 0 [(0, .ref 0)] [] (WM MA MS Mh v)
  refine M.blk (is := [(.iconst 0, 0, 0, 0), (.istore_n 1, 1, 0, 0), (.iload_n 1, 1, 0, 0), (.aload_n 0, 0, 0, 0)]) (pc1 := 4) (lo1 := [(1, .int 0), (0, .ref 0)]) (st1 := [.ref 0, .int 0]) (w1 := (WM MA MS Mh v)) (by decide +kernel) rfl ?_
  refine M.callVi (as := []) (st := [.int 0]) (nx := 7) okX4_cells lkX4_57 (m_cells (MS := MS) hms.1 hms.2.1) (by decide +kernel) (by decide) rfl (Nat.le_of_ble_eq_true rfl) rfl (by decide) ?_
  refine M.icmp_ge (off := 44) (tgt := 51) (nx := 10) (by decide +kernel) (fun z7 => by exfalso; exact nI_ge (a := 0) (show 0 < r * c by omega) (by omega) z7) (fun z7 => ?_)
  refine M.blk (is := [(.aload_n 0, 0, 0, 0), (.getfield 167, 4, 22, 0)]) (pc1 := 14) (lo1 := [(1, .int 0), (0, .ref 0)]) (st1 := [.int (MS 22)]) (w1 := (WM MA MS Mh v)) (by decide +kernel) rfl ?_
  refine M.if_eq (off := 37) (tgt := 51) (nx := 17) (by decide +kernel) (fun z14 => ?_) (fun z14 => by exfalso; exact z14 h22)
  exact M.retv (nx := 52) (by decide +kernel) ⟨rfl, rfl⟩
end MFOUR
