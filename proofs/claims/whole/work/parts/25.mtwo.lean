section MTWO
variable {MA : Nat → Nat → Int32} {MS : Nat → Int32} {Mh : Int64} {v : List Cl}
theorem wf_side {x : Int32} : (withF x 3 5 = 0 → ∀ r : Nat, x = nI r → ¬ (3 ≤ r ∧ r ≤ 5)) ∧ (¬ withF x 3 5 = 0 → ∃ r : Nat, (3 ≤ r ∧ r ≤ 5) ∧ x = nI r) := by
  rcases wf_cases x (a := 3) (b := 5) (by decide) (by decide) with ⟨h1, h2⟩ | ⟨h1, k, hk1, hk2, e⟩
  · exact ⟨fun _ r e hr => h2 r hr.1 hr.2 e, fun h => absurd h1 h⟩
  · exact ⟨fun h => absurd (h.symm.trans h1) (by decide), fun _ => ⟨k, ⟨hk1, hk2⟩, e⟩⟩
theorem m_sheet (x y : Int32) : CC 1 mX4_sheet 0 0 [.ref 0, .int x, .int y] (WM MA MS Mh v) (fun r0 w1 => (¬ layP x y ∧ r0 = some (.int (-1002)) ∧ w1 = (WM MA MS Mh v)) ∨ (∃ r c : Nat, x = nI r ∧ y = nI c ∧ (3 ≤ r ∧ r ≤ 5) ∧ (3 ≤ c ∧ c ≤ 5) ∧ r0 = some (.int (nI (r * c))) ∧ ∃ MB MT, w1 = WM MB MT Mh v ∧ MSok r c 1 0 0 MT ∧ (∀ i, ¬ (4 ≤ i ∧ i ≤ 8) → MT i = MS i) ∧ (∀ i, i ≠ 24 → MB i = MA i) ∧ (∀ a, a < 75 → MB 24 a = 0))) := by
  refine CC.of okX4_sheet.1 (Nat.le_of_ble_eq_true rfl) (fun g M => ?_)
  show g 0 0 0 [(0, .ref 0), (1, .int x), (2, .int y)] [] (WM MA MS Mh v)
  refine M.blk (is := [(.iload_n 1, 1, 0, 0), (.iconst 3, 0, 0, 3), (.iconst 5, 0, 0, 5)]) (pc1 := 3) (lo1 := [(0, .ref 0), (1, .int x), (2, .int y)]) (st1 := [.int 5, .int 3, .int x]) (w1 := (WM MA MS Mh v)) (by decide +kernel) rfl ?_
  refine M.callSi (as := [.int x, .int 3, .int 5]) (st := []) (nx := 6) okX4_within lkX4_36 (s_within (WM MA MS Mh v) x 3 5) (by decide +kernel) (by decide) rfl (Nat.le_of_ble_eq_true rfl) ?_
  refine M.if_eq (off := 12) (tgt := 18) (nx := 9) (by decide +kernel) (fun z6 => ?_) (fun z6 => ?_)
  · refine M.blk (is := [(.sipush (-1002), 0, 0, (-1002))]) (pc1 := 21) (lo1 := [(0, .ref 0), (1, .int x), (2, .int y)]) (st1 := [.int (-1002)]) (w1 := (WM MA MS Mh v)) (by decide +kernel) rfl ?_
    exact M.reti (nx := 22) (by decide +kernel) (Or.inl ⟨fun ⟨r, c, e1, e2, a1, a2⟩ => wf_side.1 z6 r e1 a1, rfl, rfl⟩)
  · refine M.blk (is := [(.iload_n 2, 2, 0, 0), (.iconst 3, 0, 0, 3), (.iconst 5, 0, 0, 5)]) (pc1 := 12) (lo1 := [(0, .ref 0), (1, .int x), (2, .int y)]) (st1 := [.int 5, .int 3, .int y]) (w1 := (WM MA MS Mh v)) (by decide +kernel) rfl ?_
    refine M.callSi (as := [.int y, .int 3, .int 5]) (st := []) (nx := 15) okX4_within lkX4_36 (s_within (WM MA MS Mh v) y 3 5) (by decide +kernel) (by decide) rfl (Nat.le_of_ble_eq_true rfl) ?_
    refine M.if_ne (off := 7) (tgt := 22) (nx := 18) (by decide +kernel) (fun z15 => ?_) (fun z15 => ?_)
    · obtain ⟨r, hr, rfl⟩ := wf_side.2 z6
      obtain ⟨c, hc, rfl⟩ := wf_side.2 z15
      refine M.blk (is := [(.aload_n 0, 0, 0, 0), (.iload_n 1, 1, 0, 0), (.putfield 16, 4, 4, 0), (.aload_n 0, 0, 0, 0), (.iload_n 2, 2, 0, 0), (.putfield 20, 4, 5, 0), (.aload_n 0, 0, 0, 0), (.iconst 1, 0, 0, 1), (.putfield 23, 4, 6, 0), (.aload_n 0, 0, 0, 0), (.iconst 0, 0, 0, 0), (.putfield 60, 4, 7, 0), (.aload_n 0, 0, 0, 0), (.iconst 0, 0, 0, 0), (.putfield 63, 4, 8, 0), (.aload_n 0, 0, 0, 0)]) (pc1 := 48) (lo1 := [(0, .ref 0), (1, .int (nI r)), (2, .int (nI c))]) (st1 := [.ref 0]) (w1 := (WM MA (upd (upd (upd (upd (upd MS 4 (nI r)) 5 (nI c)) 6 1) 7 0) 8 0) Mh v)) (by decide +kernel) rfl ?_
      refine M.callV (as := []) (st := []) (nx := 51) okX4_altered lkX4_54 m_altered (by decide +kernel) (by decide) rfl (Nat.le_of_ble_eq_true rfl) rfl (by decide) ⟨by decide, by decide⟩ ?_
      intro r0 w1 hq
      obtain ⟨rfl, MB, rfl, hal1, hal2⟩ := hq
      show g 0 0 51 [(0, .ref 0), (1, .int (nI r)), (2, .int (nI c))] [] (WM MB (upd (upd (upd (upd (upd MS 4 (nI r)) 5 (nI c)) 6 1) 7 0) 8 0) Mh v)
      refine M.blk (is := [(.aload_n 0, 0, 0, 0)]) (pc1 := 52) (lo1 := [(0, .ref 0), (1, .int (nI r)), (2, .int (nI c))]) (st1 := [.ref 0]) (w1 := (WM MB (upd (upd (upd (upd (upd MS 4 (nI r)) 5 (nI c)) 6 1) 7 0) 8 0) Mh v)) (by decide +kernel) rfl ?_
      refine M.callVi (as := []) (st := []) (nx := 55) okX4_cells lkX4_57 (m_cells (r := r) (c := c) rfl rfl) (by decide +kernel) (by decide) rfl (Nat.le_of_ble_eq_true rfl) rfl (by decide) ?_
      exact M.reti (nx := 56) (by decide +kernel) (Or.inr ⟨r, c, rfl, rfl, hr, hc, rfl, MB, _, rfl, ⟨rfl, rfl, rfl, rfl, rfl⟩, fun i hi => by rw [pk_un (by omega), pk_un (by omega), pk_un (by omega), pk_un (by omega), pk_un (by omega)], hal1, hal2⟩)
    · refine M.blk (is := [(.sipush (-1002), 0, 0, (-1002))]) (pc1 := 21) (lo1 := [(0, .ref 0), (1, .int x), (2, .int y)]) (st1 := [.int (-1002)]) (w1 := (WM MA MS Mh v)) (by decide +kernel) rfl ?_
      exact M.reti (nx := 22) (by decide +kernel) (Or.inl ⟨fun ⟨r, c, e1, e2, a1, a2⟩ => wf_side.1 z15 c e2 a2, rfl, rfl⟩)
theorem m_cellAt {r c f h t : Nat} (hgeo : GeoOk r c f h t) (hms : MSok r c f h t MS) {a : Nat} (ha : a < 1000) : CC 1 mX4_cellAt 0 0 [.ref 0, .int (nI a)] (WM MA MS Mh v) (Rt (nI ((f * a + h) % (r * c))) (WM MA MS Mh v)) := by
  have h25 : r * c ≤ 25 := Nat.mul_le_mul hgeo.1.2 hgeo.2.1.2
  have h9a : 9 ≤ r * c := Nat.mul_le_mul hgeo.1.1 hgeo.2.1.1
  have hfa : f * a ≤ 25 * 1000 := Nat.mul_le_mul (by have := hgeo.2.2.1.2; omega) (by omega)
  have hh := hgeo.2.2.2.2.1
  refine CC.of okX4_cellAt.1 (Nat.le_of_ble_eq_true rfl) (fun g M => ?_)
  show g 0 0 0 [(0, .ref 0), (1, .int (nI a))] [] (WM MA MS Mh v)
  refine M.blk (is := [(.aload_n 0, 0, 0, 0), (.getfield 23, 4, 6, 0), (.iload_n 1, 1, 0, 0), (.imul, 0, 0, 0), (.aload_n 0, 0, 0, 0), (.getfield 60, 4, 7, 0), (.iadd, 0, 0, 0), (.aload_n 0, 0, 0, 0)]) (pc1 := 12) (lo1 := [(0, .ref 0), (1, .int (nI a))]) (st1 := [.ref 0, .int (((MS 6) * (nI a)) + (MS 7))]) (w1 := (WM MA MS Mh v)) (by decide +kernel) rfl ?_
  refine M.callVi (as := []) (st := [.int (((MS 6) * (nI a)) + (MS 7))]) (nx := 15) okX4_cells lkX4_57 (m_cells hms.1 hms.2.1) (by decide +kernel) (by decide) rfl (Nat.le_of_ble_eq_true rfl) rfl (by decide) ?_
  refine M.irm (nx := 16) (by decide +kernel) (nI_ne0 (by omega) (by omega)) ?_
  exact M.reti (nx := 17) (by decide +kernel) ⟨by rw [hms.2.2.1, hms.2.2.2.1, pk_mul, nI_add, hf_rem (by omega) (by omega) (by omega)], rfl⟩
theorem m_scramble {r c f0 h0 t0 : Nat} (hgeo : GeoOk r c f0 h0 t0) (hms : MSok r c f0 h0 t0 MS) (x y z : Int32) : CC 2 mX4_scramble 0 0 [.ref 0, .int x, .int y, .int z] (WM MA MS Mh v) (fun r0 w1 => (¬ mixP r (r * c) x y z ∧ r0 = some (.int (-1002)) ∧ w1 = (WM MA MS Mh v)) ∨ (∃ f h t : Nat, (x = nI f ∧ y = nI h ∧ z = nI t) ∧ GeoOk r c f h t ∧ r0 = some (.int (nI (fixC (r * c) f h (r * c)))) ∧ ∃ MT, w1 = WM MA MT Mh v ∧ MSok r c f h t MT ∧ (∀ i, ¬ (6 ≤ i ∧ i ≤ 8) → MT i = MS i))) := by
  have h25 : r * c ≤ 25 := Nat.mul_le_mul hgeo.1.2 hgeo.2.1.2
  have h9a : 9 ≤ r * c := Nat.mul_le_mul hgeo.1.1 hgeo.2.1.1
  have h2r : 2 ^ r ≤ 32 := Nat.pow_le_pow_right (n := 2) (by decide) hgeo.1.2
  have h2p : 0 < 2 ^ r := Nat.pow_pos (by decide)
  refine CC.of okX4_scramble.1 (Nat.le_of_ble_eq_true rfl) (fun g M => ?_)
  have en1 : nI (r * c) - 1 = nI (r * c - 1) := by rw [show (1 : Int32) = nI 1 from rfl, pk_sub (by omega)]
  have er1 : ((1 : Int32) <<< (MS 4 &&& 31)) - 1 = nI (2 ^ r - 1) := by rw [hms.1, shl1 (by have := hgeo.1.2; omega), show (1 : Int32) = nI 1 from rfl, pk_sub (by omega)]
  have cx := wf_cases x (a := 1) (b := r * c - 1) (by omega) (by omega)
  have cy := wf_cases y (a := 0) (b := r * c - 1) (by omega) (by omega)
  have cz := wf_cases z (a := 0) (b := 2 ^ r - 1) (by omega) (by omega)
  show g 0 0 0 [(0, .ref 0), (1, .int x), (2, .int y), (3, .int z)] [] (WM MA MS Mh v)
  refine M.blk (is := [(.iload_n 1, 1, 0, 0), (.iconst 1, 0, 0, 1), (.aload_n 0, 0, 0, 0)]) (pc1 := 3) (lo1 := [(0, .ref 0), (1, .int x), (2, .int y), (3, .int z)]) (st1 := [.ref 0, .int 1, .int x]) (w1 := (WM MA MS Mh v)) (by decide +kernel) rfl ?_
  refine M.callVi (as := []) (st := [.int 1, .int x]) (nx := 6) okX4_cells lkX4_57 (m_cells hms.1 hms.2.1) (by decide +kernel) (by decide) rfl (Nat.le_of_ble_eq_true rfl) rfl (by decide) ?_
  refine M.blk (is := [(.iconst 1, 0, 0, 1), (.isub, 0, 0, 0)]) (pc1 := 8) (lo1 := [(0, .ref 0), (1, .int x), (2, .int y), (3, .int z)]) (st1 := [.int ((nI (r * c)) - 1), .int 1, .int x]) (w1 := (WM MA MS Mh v)) (by decide +kernel) rfl ?_
  rw [en1]
  refine M.callSi (as := [.int x, .int 1, .int (nI (r * c - 1))]) (st := []) (nx := 11) okX4_within lkX4_36 (s_within (WM MA MS Mh v) x 1 (nI (r * c - 1))) (by decide +kernel) (by decide) rfl (Nat.le_of_ble_eq_true rfl) ?_
  refine M.if_eq (off := 49) (tgt := 60) (nx := 14) (by decide +kernel) (fun z11 => ?_) (fun z11 => ?_)
  · refine M.blk (is := [(.iconst 0, 0, 0, 0), (.istore 4, 4, 0, 0), (.iload 4, 4, 0, 0)]) (pc1 := 65) (lo1 := [(4, .int 0), (0, .ref 0), (1, .int x), (2, .int y), (3, .int z)]) (st1 := [.int 0]) (w1 := (WM MA MS Mh v)) (by decide +kernel) rfl ?_
    refine M.if_ne (off := 7) (tgt := 72) (nx := 68) (by decide +kernel) (fun h => absurd h (by decide)) (fun _ => ?_)
    refine M.blk (is := [(.sipush (-1002), 0, 0, (-1002))]) (pc1 := 71) (lo1 := [(4, .int 0), (0, .ref 0), (1, .int x), (2, .int y), (3, .int z)]) (st1 := [.int (-1002)]) (w1 := (WM MA MS Mh v)) (by decide +kernel) rfl ?_
    exact M.reti (nx := 72) (by decide +kernel) (Or.inl ⟨(fun ⟨f, h, t, e1, e2, e3, a1, a2, a3, a4, a5⟩ => by rcases cx with ⟨_, e⟩ | ⟨e, _⟩; exact e f a1 (by omega) e1; exact absurd (z11.symm.trans e) (by decide)), rfl, rfl⟩)
  · obtain ⟨f, hf1, hf2, rfl⟩ : ∃ f : Nat, 1 ≤ f ∧ f ≤ r * c - 1 ∧ x = nI f := by
      rcases cx with ⟨e, _⟩ | ⟨_, h⟩
      · exact absurd e z11
      · exact h
    refine M.blk (is := [(.iload_n 1, 1, 0, 0), (.aload_n 0, 0, 0, 0)]) (pc1 := 16) (lo1 := [(0, .ref 0), (1, .int (nI f)), (2, .int y), (3, .int z)]) (st1 := [.ref 0, .int (nI f)]) (w1 := (WM MA MS Mh v)) (by decide +kernel) rfl ?_
    refine M.callVi (as := []) (st := [.int (nI f)]) (nx := 19) okX4_cells lkX4_57 (m_cells hms.1 hms.2.1) (by decide +kernel) (by decide) rfl (Nat.le_of_ble_eq_true rfl) rfl (by decide) ?_
    refine M.callSi (as := [.int (nI f), .int (nI (r * c))]) (st := []) (nx := 22) okX4_common lkX4_66 (s_common (WM MA MS Mh v) (a := f) (b := r * c) (by omega) (by omega)) (by decide +kernel) (by decide) rfl (Nat.le_of_ble_eq_true rfl) ?_
    refine M.blk (is := [(.iconst 1, 0, 0, 1)]) (pc1 := 23) (lo1 := [(0, .ref 0), (1, .int (nI f)), (2, .int y), (3, .int z)]) (st1 := [.int 1, .int (nI (Nat.gcd f (r * c)))]) (w1 := (WM MA MS Mh v)) (by decide +kernel) rfl ?_
    refine M.icmp_ne (off := 37) (tgt := 60) (nx := 26) (by decide +kernel) (fun z23 => ?_) (fun z23 => ?_)
    · refine M.blk (is := [(.iconst 0, 0, 0, 0), (.istore 4, 4, 0, 0), (.iload 4, 4, 0, 0)]) (pc1 := 65) (lo1 := [(4, .int 0), (0, .ref 0), (1, .int (nI f)), (2, .int y), (3, .int z)]) (st1 := [.int 0]) (w1 := (WM MA MS Mh v)) (by decide +kernel) rfl ?_
      refine M.if_ne (off := 7) (tgt := 72) (nx := 68) (by decide +kernel) (fun h => absurd h (by decide)) (fun _ => ?_)
      refine M.blk (is := [(.sipush (-1002), 0, 0, (-1002))]) (pc1 := 71) (lo1 := [(4, .int 0), (0, .ref 0), (1, .int (nI f)), (2, .int y), (3, .int z)]) (st1 := [.int (-1002)]) (w1 := (WM MA MS Mh v)) (by decide +kernel) rfl ?_
      exact M.reti (nx := 72) (by decide +kernel) (Or.inl ⟨(fun ⟨f1, h, t, e1, e2, e3, a1, a2, a3, a4, a5⟩ => z23 (by rw [nI_inj (by omega) (by omega) e1, Nat.gcd_comm, a3]; rfl)), rfl, rfl⟩)
    · refine M.blk (is := [(.iload_n 2, 2, 0, 0), (.iconst 0, 0, 0, 0), (.aload_n 0, 0, 0, 0)]) (pc1 := 29) (lo1 := [(0, .ref 0), (1, .int (nI f)), (2, .int y), (3, .int z)]) (st1 := [.ref 0, .int 0, .int y]) (w1 := (WM MA MS Mh v)) (by decide +kernel) rfl ?_
      refine M.callVi (as := []) (st := [.int 0, .int y]) (nx := 32) okX4_cells lkX4_57 (m_cells hms.1 hms.2.1) (by decide +kernel) (by decide) rfl (Nat.le_of_ble_eq_true rfl) rfl (by decide) ?_
      refine M.blk (is := [(.iconst 1, 0, 0, 1), (.isub, 0, 0, 0)]) (pc1 := 34) (lo1 := [(0, .ref 0), (1, .int (nI f)), (2, .int y), (3, .int z)]) (st1 := [.int ((nI (r * c)) - 1), .int 0, .int y]) (w1 := (WM MA MS Mh v)) (by decide +kernel) rfl ?_
      rw [en1]
      refine M.callSi (as := [.int y, .int 0, .int (nI (r * c - 1))]) (st := []) (nx := 37) okX4_within lkX4_36 (s_within (WM MA MS Mh v) y 0 (nI (r * c - 1))) (by decide +kernel) (by decide) rfl (Nat.le_of_ble_eq_true rfl) ?_
      refine M.if_eq (off := 23) (tgt := 60) (nx := 40) (by decide +kernel) (fun z37 => ?_) (fun z37 => ?_)
      · refine M.blk (is := [(.iconst 0, 0, 0, 0), (.istore 4, 4, 0, 0), (.iload 4, 4, 0, 0)]) (pc1 := 65) (lo1 := [(4, .int 0), (0, .ref 0), (1, .int (nI f)), (2, .int y), (3, .int z)]) (st1 := [.int 0]) (w1 := (WM MA MS Mh v)) (by decide +kernel) rfl ?_
        refine M.if_ne (off := 7) (tgt := 72) (nx := 68) (by decide +kernel) (fun h => absurd h (by decide)) (fun _ => ?_)
        refine M.blk (is := [(.sipush (-1002), 0, 0, (-1002))]) (pc1 := 71) (lo1 := [(4, .int 0), (0, .ref 0), (1, .int (nI f)), (2, .int y), (3, .int z)]) (st1 := [.int (-1002)]) (w1 := (WM MA MS Mh v)) (by decide +kernel) rfl ?_
        exact M.reti (nx := 72) (by decide +kernel) (Or.inl ⟨(fun ⟨f1, h, t, e1, e2, e3, a1, a2, a3, a4, a5⟩ => by rcases cy with ⟨_, e⟩ | ⟨e, _⟩; exact e h (Nat.zero_le _) (by omega) e2; exact absurd (z37.symm.trans e) (by decide)), rfl, rfl⟩)
      · refine M.blk (is := [(.iload_n 3, 3, 0, 0), (.iconst 0, 0, 0, 0), (.iconst 1, 0, 0, 1), (.aload_n 0, 0, 0, 0), (.getfield 16, 4, 4, 0), (.ishl, 0, 0, 0), (.iconst 1, 0, 0, 1), (.isub, 0, 0, 0)]) (pc1 := 50) (lo1 := [(0, .ref 0), (1, .int (nI f)), (2, .int y), (3, .int z)]) (st1 := [.int (((1 : Int32) <<< ((MS 4) &&& 31)) - 1), .int 0, .int z]) (w1 := (WM MA MS Mh v)) (by decide +kernel) rfl ?_
        rw [er1]
        refine M.callSi (as := [.int z, .int 0, .int (nI (2 ^ r - 1))]) (st := []) (nx := 53) okX4_within lkX4_36 (s_within (WM MA MS Mh v) z 0 (nI (2 ^ r - 1))) (by decide +kernel) (by decide) rfl (Nat.le_of_ble_eq_true rfl) ?_
        refine M.if_eq (off := 7) (tgt := 60) (nx := 56) (by decide +kernel) (fun z53 => ?_) (fun z53 => ?_)
        · refine M.blk (is := [(.iconst 0, 0, 0, 0), (.istore 4, 4, 0, 0), (.iload 4, 4, 0, 0)]) (pc1 := 65) (lo1 := [(4, .int 0), (0, .ref 0), (1, .int (nI f)), (2, .int y), (3, .int z)]) (st1 := [.int 0]) (w1 := (WM MA MS Mh v)) (by decide +kernel) rfl ?_
          refine M.if_ne (off := 7) (tgt := 72) (nx := 68) (by decide +kernel) (fun h => absurd h (by decide)) (fun _ => ?_)
          refine M.blk (is := [(.sipush (-1002), 0, 0, (-1002))]) (pc1 := 71) (lo1 := [(4, .int 0), (0, .ref 0), (1, .int (nI f)), (2, .int y), (3, .int z)]) (st1 := [.int (-1002)]) (w1 := (WM MA MS Mh v)) (by decide +kernel) rfl ?_
          exact M.reti (nx := 72) (by decide +kernel) (Or.inl ⟨(fun ⟨f1, h, t, e1, e2, e3, a1, a2, a3, a4, a5⟩ => by rcases cz with ⟨_, e⟩ | ⟨e, _⟩; exact e t (Nat.zero_le _) (by omega) e3; exact absurd (z53.symm.trans e) (by decide)), rfl, rfl⟩)
        · refine M.blk (is := [(.iconst 1, 0, 0, 1), (.goto 4, 61, 0, 0), (.istore 4, 4, 0, 0), (.iload 4, 4, 0, 0)]) (pc1 := 65) (lo1 := [(4, .int 1), (0, .ref 0), (1, .int (nI f)), (2, .int y), (3, .int z)]) (st1 := [.int 1]) (w1 := (WM MA MS Mh v)) (by decide +kernel) rfl ?_
          refine M.if_ne (off := 7) (tgt := 72) (nx := 68) (by decide +kernel) (fun _ => ?_) (fun h => absurd h (by decide))
          obtain ⟨h, _, hh2, rfl⟩ : ∃ h : Nat, 0 ≤ h ∧ h ≤ r * c - 1 ∧ y = nI h := by
            rcases cy with ⟨e, _⟩ | ⟨_, h⟩
            · exact absurd e z37
            · exact h
          obtain ⟨t, _, ht2, rfl⟩ : ∃ t : Nat, 0 ≤ t ∧ t ≤ 2 ^ r - 1 ∧ z = nI t := by
            rcases cz with ⟨e, _⟩ | ⟨_, h⟩
            · exact absurd e z53
            · exact h
          have hg : Nat.gcd (r * c) f = 1 := by rw [Nat.gcd_comm]; exact nI_inj (Nat.lt_of_le_of_lt (Nat.gcd_le_left _ hf1) (by omega)) (by decide) z23
          have hgeo2 : GeoOk r c f h t := ⟨hgeo.1, hgeo.2.1, ⟨hf1, by omega⟩, hg, by omega, by omega⟩
          have hms2 : MSok r c f h t (upd (upd (upd MS 6 (nI f)) 7 (nI h)) 8 (nI t)) := ⟨hms.1, hms.2.1, rfl, rfl, rfl⟩
          have lp : ∀ k m, m + k = r * c → g 0 0 93 [(0, .ref 0), (5, .int (nI (fixC (r * c) f h m))), (6, .int (nI m))] [] (WM MA (upd (upd (upd MS 6 (nI f)) 7 (nI h)) 8 (nI t)) Mh v) := by
            intro k
            induction k with
            | zero =>
              intro m hm
              have em : r * c = m := by omega
              rw [← em]
              refine M.blk (is := [(.iload 6, 6, 0, 0), (.aload_n 0, 0, 0, 0)]) (pc1 := 96) (lo1 := [(0, .ref 0), (5, .int (nI (fixC (r * c) f h (r * c)))), (6, .int (nI (r * c)))]) (st1 := [.ref 0, .int (nI (r * c))]) (w1 := (WM MA (upd (upd (upd MS 6 (nI f)) 7 (nI h)) 8 (nI t)) Mh v)) (by decide +kernel) rfl ?_
              refine M.callVi (as := []) (st := [.int (nI (r * c))]) (nx := 99) okX4_cells lkX4_57 (m_cells (MS := (upd (upd (upd MS 6 (nI f)) 7 (nI h)) 8 (nI t))) hms2.1 hms2.2.1) (by decide +kernel) (by decide) rfl (Nat.le_of_ble_eq_true rfl) rfl (by decide) ?_
              refine M.icmp_ge (off := 30) (tgt := 129) (nx := 102) (by decide +kernel) (fun z99 => ?_) (fun z99 => by exfalso; exact z99 (nI_le (Nat.le_refl _) (by omega)))
              refine M.blk (is := [(.iload 5, 5, 0, 0)]) (pc1 := 131) (lo1 := [(0, .ref 0), (5, .int (nI (fixC (r * c) f h (r * c)))), (6, .int (nI (r * c)))]) (st1 := [.int (nI (fixC (r * c) f h (r * c)))]) (w1 := (WM MA (upd (upd (upd MS 6 (nI f)) 7 (nI h)) 8 (nI t)) Mh v)) (by decide +kernel) rfl ?_
              exact M.reti (nx := 132) (by decide +kernel) (Or.inr ⟨f, h, t, ⟨rfl, rfl, rfl⟩, hgeo2, rfl, _, rfl, hms2, fun i hi => by rw [pk_un (by omega), pk_un (by omega), pk_un (by omega)]⟩)
            | succ k ih =>
              intro m hm
              refine M.blk (is := [(.iload 6, 6, 0, 0), (.aload_n 0, 0, 0, 0)]) (pc1 := 96) (lo1 := [(0, .ref 0), (5, .int (nI (fixC (r * c) f h m))), (6, .int (nI m))]) (st1 := [.ref 0, .int (nI m)]) (w1 := (WM MA (upd (upd (upd MS 6 (nI f)) 7 (nI h)) 8 (nI t)) Mh v)) (by decide +kernel) rfl ?_
              refine M.callVi (as := []) (st := [.int (nI m)]) (nx := 99) okX4_cells lkX4_57 (m_cells (MS := (upd (upd (upd MS 6 (nI f)) 7 (nI h)) 8 (nI t))) hms2.1 hms2.2.1) (by decide +kernel) (by decide) rfl (Nat.le_of_ble_eq_true rfl) rfl (by decide) ?_
              refine M.icmp_ge (off := 30) (tgt := 129) (nx := 102) (by decide +kernel) (fun z99 => by exfalso; exact nI_ge (show m < r * c by omega) (by omega) z99) (fun z99 => ?_)
              refine M.blk (is := [(.iload 5, 5, 0, 0), (.aload_n 0, 0, 0, 0), (.iload 6, 6, 0, 0)]) (pc1 := 107) (lo1 := [(0, .ref 0), (5, .int (nI (fixC (r * c) f h m))), (6, .int (nI m))]) (st1 := [.int (nI m), .ref 0, .int (nI (fixC (r * c) f h m))]) (w1 := (WM MA (upd (upd (upd MS 6 (nI f)) 7 (nI h)) 8 (nI t)) Mh v)) (by decide +kernel) rfl ?_
              refine M.callVi (as := [.int (nI m)]) (st := [.int (nI (fixC (r * c) f h m))]) (nx := 110) okX4_cellAt lkX4_70 (m_cellAt (MS := (upd (upd (upd MS 6 (nI f)) 7 (nI h)) 8 (nI t))) hgeo2 hms2 (a := m) (by omega)) (by decide +kernel) (by decide) rfl (Nat.le_of_ble_eq_true rfl) rfl (by decide) ?_
              refine M.blk (is := [(.iload 6, 6, 0, 0)]) (pc1 := 112) (lo1 := [(0, .ref 0), (5, .int (nI (fixC (r * c) f h m))), (6, .int (nI m))]) (st1 := [.int (nI m), .int (nI ((f * m + h) % (r * c))), .int (nI (fixC (r * c) f h m))]) (w1 := (WM MA (upd (upd (upd MS 6 (nI f)) 7 (nI h)) 8 (nI t)) Mh v)) (by decide +kernel) rfl ?_
              have j112 : ∀ b112 : Int32, b112 = (if ¬ nI ((f * m + h) % (r * c)) = nI m then (0 : Int32) else 1) → g 0 0 120 [(0, .ref 0), (5, .int (nI (fixC (r * c) f h m))), (6, .int (nI m))] [.int b112, .int (nI (fixC (r * c) f h m))] (WM MA (upd (upd (upd MS 6 (nI f)) 7 (nI h)) 8 (nI t)) Mh v) := by
                intro b112 hb112
                refine M.blk (is := [(.iadd, 0, 0, 0), (.istore 5, 5, 0, 0), (.iinc 6 1, 6, 0, 1), (.goto (-33), 93, 0, 0)]) (pc1 := 93) (lo1 := [(6, .int ((nI m) + 1)), (5, .int ((nI (fixC (r * c) f h m)) + b112)), (0, .ref 0)]) (st1 := []) (w1 := (WM MA (upd (upd (upd MS 6 (nI f)) 7 (nI h)) 8 (nI t)) Mh v)) (by decide +kernel) rfl ?_
                refine M.lsub [2, 1, 0] (lo1 := [(0, .ref 0), (5, .int ((nI (fixC (r * c) f h m)) + b112)), (6, .int ((nI m) + 1))]) rfl ?_
                have e := ih (m + 1) (by omega)
                by_cases hc : (f * m + h) % (r * c) = m
                · rw [if_neg (fun h => h (by rw [hc]))] at hb112
                  rw [fix_t hc] at e
                  rw [hb112, nI_1, nI_1]
                  exact e
                · rw [if_pos (fun h => hc (nI_inj (Nat.lt_trans (Nat.mod_lt _ (by omega)) (by omega)) (by omega) h))] at hb112
                  rw [fix_f hc] at e
                  rw [hb112, nI_1, nI_a0]
                  exact e
              refine M.icmp_ne (off := 7) (tgt := 119) (nx := 115) (by decide +kernel) (fun z112 => ?_) (fun z112 => ?_)
              · refine M.blk (is := [(.iconst 0, 0, 0, 0)]) (pc1 := 120) (lo1 := [(0, .ref 0), (5, .int (nI (fixC (r * c) f h m))), (6, .int (nI m))]) (st1 := [.int 0, .int (nI (fixC (r * c) f h m))]) (w1 := (WM MA (upd (upd (upd MS 6 (nI f)) 7 (nI h)) 8 (nI t)) Mh v)) (by decide +kernel) rfl ?_
                exact j112 _ (if_pos z112).symm
              · refine M.blk (is := [(.iconst 1, 0, 0, 1), (.goto 4, 120, 0, 0)]) (pc1 := 120) (lo1 := [(0, .ref 0), (5, .int (nI (fixC (r * c) f h m))), (6, .int (nI m))]) (st1 := [.int 1, .int (nI (fixC (r * c) f h m))]) (w1 := (WM MA (upd (upd (upd MS 6 (nI f)) 7 (nI h)) 8 (nI t)) Mh v)) (by decide +kernel) rfl ?_
                exact j112 _ (if_neg (fun h => h z112)).symm
          refine M.blk (is := [(.aload_n 0, 0, 0, 0), (.iload_n 1, 1, 0, 0), (.putfield 23, 4, 6, 0), (.aload_n 0, 0, 0, 0), (.iload_n 2, 2, 0, 0), (.putfield 60, 4, 7, 0), (.aload_n 0, 0, 0, 0), (.iload_n 3, 3, 0, 0), (.putfield 63, 4, 8, 0), (.iconst 0, 0, 0, 0), (.istore 5, 5, 0, 0), (.iconst 0, 0, 0, 0), (.istore 6, 6, 0, 0)]) (pc1 := 93) (lo1 := [(6, .int 0), (5, .int 0), (4, .int 1), (0, .ref 0), (1, .int (nI f)), (2, .int (nI h)), (3, .int (nI t))]) (st1 := []) (w1 := (WM MA (upd (upd (upd MS 6 (nI f)) 7 (nI h)) 8 (nI t)) Mh v)) (by decide +kernel) rfl ?_
          refine M.lsub [3, 1, 0] (lo1 := [(0, .ref 0), (5, .int 0), (6, .int 0)]) rfl ?_
          exact lp (r * c) 0 (by omega)
theorem m_typeOf {r c f h t : Nat} (hgeo : GeoOk r c f h t) (hms : MSok r c f h t MS) {k : Nat} (hk : k < r * c) : CC 0 mX4_typeOf 0 0 [.ref 0, .int (nI k)] (WM MA MS Mh v) (Rt (nI (tyN c k)) (WM MA MS Mh v)) := by
  have h25 : r * c ≤ 25 := Nat.mul_le_mul hgeo.1.2 hgeo.2.1.2
  have h9a : 9 ≤ r * c := Nat.mul_le_mul hgeo.1.1 hgeo.2.1.1
  have hc5 := hgeo.2.1
  have hr5 := hgeo.1
  have hdc : k / c ≤ k := Nat.div_le_self _ _
  have hmc : k % c ≤ k := Nat.mod_le _ _
  refine CC.of okX4_typeOf.1 (Nat.le_of_ble_eq_true rfl) (fun g M => ?_)
  show g 0 0 0 [(0, .ref 0), (1, .int (nI k))] [] (WM MA MS Mh v)
  refine M.blk (is := [(.iload_n 1, 1, 0, 0), (.aload_n 0, 0, 0, 0), (.getfield 20, 4, 5, 0)]) (pc1 := 5) (lo1 := [(0, .ref 0), (1, .int (nI k))]) (st1 := [.int (MS 5), .int (nI k)]) (w1 := (WM MA MS Mh v)) (by decide +kernel) rfl ?_
  refine M.idv (nx := 6) (by decide +kernel) (by rw [hms.2.1]; exact nI_ne0 (by omega) (by omega)) ?_
  rw [show nI k / MS 5 = nI (k / c) by rw [hms.2.1, pk_div (by omega) (by omega) (by omega)]]
  refine M.blk (is := [(.iconst 2, 0, 0, 2), (.iload_n 1, 1, 0, 0), (.aload_n 0, 0, 0, 0), (.getfield 20, 4, 5, 0)]) (pc1 := 12) (lo1 := [(0, .ref 0), (1, .int (nI k))]) (st1 := [.int (MS 5), .int (nI k), .int 2, .int (nI (k / c))]) (w1 := (WM MA MS Mh v)) (by decide +kernel) rfl ?_
  refine M.irm (nx := 13) (by decide +kernel) (by rw [hms.2.1]; exact nI_ne0 (by omega) (by omega)) ?_
  rw [show jrem (nI k) (MS 5) = nI (k % c) by rw [hms.2.1, hf_rem (by omega) (by omega) (by omega)]]
  refine M.blk (is := [(.imul, 0, 0, 0), (.iadd, 0, 0, 0), (.iconst 5, 0, 0, 5)]) (pc1 := 16) (lo1 := [(0, .ref 0), (1, .int (nI k))]) (st1 := [.int 5, .int ((nI (k / c)) + (2 * (nI (k % c))))]) (w1 := (WM MA MS Mh v)) (by decide +kernel) rfl ?_
  refine M.irm (nx := 17) (by decide +kernel) (by decide) ?_
  exact M.reti (nx := 18) (by decide +kernel) ⟨by rw [show (2 : Int32) = nI 2 from rfl, pk_mul, nI_add, show (5 : Int32) = nI 5 from rfl, hf_rem (by omega) (by decide) (by decide)]; rfl, rfl⟩
theorem m_isTurned {r c f h t : Nat} (hgeo : GeoOk r c f h t) (hms : MSok r c f h t MS) {k : Nat} (hk : k < r * c) : CC 0 mX4_isTurned 0 0 [.ref 0, .int (nI k)] (WM MA MS Mh v) (Rt ((nI t >>> (nI (k / c) &&& 31)) &&& 1) (WM MA MS Mh v)) := by
  have h25 : r * c ≤ 25 := Nat.mul_le_mul hgeo.1.2 hgeo.2.1.2
  have h9a : 9 ≤ r * c := Nat.mul_le_mul hgeo.1.1 hgeo.2.1.1
  have hc5 := hgeo.2.1
  have hr5 := hgeo.1
  refine CC.of okX4_isTurned.1 (Nat.le_of_ble_eq_true rfl) (fun g M => ?_)
  show g 0 0 0 [(0, .ref 0), (1, .int (nI k))] [] (WM MA MS Mh v)
  refine M.blk (is := [(.aload_n 0, 0, 0, 0), (.getfield 63, 4, 8, 0), (.iload_n 1, 1, 0, 0), (.aload_n 0, 0, 0, 0), (.getfield 20, 4, 5, 0)]) (pc1 := 9) (lo1 := [(0, .ref 0), (1, .int (nI k))]) (st1 := [.int (MS 5), .int (nI k), .int (MS 8)]) (w1 := (WM MA MS Mh v)) (by decide +kernel) rfl ?_
  refine M.idv (nx := 10) (by decide +kernel) (by rw [hms.2.1]; exact nI_ne0 (by omega) (by omega)) ?_
  rw [show nI k / MS 5 = nI (k / c) by rw [hms.2.1, pk_div (by omega) (by omega) (by omega)]]
  refine M.blk (is := [(.ishr, 0, 0, 0), (.iconst 1, 0, 0, 1), (.iand, 0, 0, 0)]) (pc1 := 13) (lo1 := [(0, .ref 0), (1, .int (nI k))]) (st1 := [.int (((MS 8) >>> ((nI (k / c)) &&& 31)) &&& 1)]) (w1 := (WM MA MS Mh v)) (by decide +kernel) rfl ?_
  exact M.reti (nx := 14) (by decide +kernel) ⟨by rw [hms.2.2.2.2], rfl⟩
theorem m_addressOf {r c f h t : Nat} (hgeo : GeoOk r c f h t) (hms : MSok r c f h t MS) {k a : Nat} (ha : a < r * c) (hk : (f * a + h) % (r * c) = k) : CC 2 mX4_addressOf 0 0 [.ref 0, .int (nI k)] (WM MA MS Mh v) (Rt (nI a) (WM MA MS Mh v)) := by
  have h25 : r * c ≤ 25 := Nat.mul_le_mul hgeo.1.2 hgeo.2.1.2
  have h9a : 9 ≤ r * c := Nat.mul_le_mul hgeo.1.1 hgeo.2.1.1
  have hkn : k < r * c := by rw [← hk]; exact Nat.mod_lt _ (by omega)
  refine CC.of okX4_addressOf.1 (Nat.le_of_ble_eq_true rfl) (fun g M => ?_)
  have lp : ∀ m b, b + m = a → g 0 0 2 [(0, .ref 0), (1, .int (nI k)), (2, .int (nI b))] [] (WM MA MS Mh v) := by
    intro m
    induction m with
    | zero =>
      intro b hb
      have eb : a = b := by omega
      subst eb
      refine M.blk (is := [(.aload_n 0, 0, 0, 0), (.iload_n 2, 2, 0, 0)]) (pc1 := 4) (lo1 := [(0, .ref 0), (1, .int (nI k)), (2, .int (nI a))]) (st1 := [.int (nI a), .ref 0]) (w1 := (WM MA MS Mh v)) (by decide +kernel) rfl ?_
      refine M.callVi (as := [.int (nI a)]) (st := []) (nx := 7) okX4_cellAt lkX4_70 (m_cellAt hgeo hms (a := a) (by omega)) (by decide +kernel) (by decide) rfl (Nat.le_of_ble_eq_true rfl) rfl (by decide) ?_
      refine M.blk (is := [(.iload_n 1, 1, 0, 0)]) (pc1 := 8) (lo1 := [(0, .ref 0), (1, .int (nI k)), (2, .int (nI a))]) (st1 := [.int (nI k), .int (nI ((f * a + h) % (r * c)))]) (w1 := (WM MA MS Mh v)) (by decide +kernel) rfl ?_
      refine M.icmp_eq (off := 9) (tgt := 17) (nx := 11) (by decide +kernel) (fun z8 => ?_) (fun z8 => by exfalso; exact z8 (by rw [hk]))
      refine M.blk (is := [(.iload_n 2, 2, 0, 0)]) (pc1 := 18) (lo1 := [(0, .ref 0), (1, .int (nI k)), (2, .int (nI a))]) (st1 := [.int (nI a)]) (w1 := (WM MA MS Mh v)) (by decide +kernel) rfl ?_
      exact M.reti (nx := 19) (by decide +kernel) ⟨rfl, rfl⟩
    | succ m ih =>
      intro b hb
      refine M.blk (is := [(.aload_n 0, 0, 0, 0), (.iload_n 2, 2, 0, 0)]) (pc1 := 4) (lo1 := [(0, .ref 0), (1, .int (nI k)), (2, .int (nI b))]) (st1 := [.int (nI b), .ref 0]) (w1 := (WM MA MS Mh v)) (by decide +kernel) rfl ?_
      refine M.callVi (as := [.int (nI b)]) (st := []) (nx := 7) okX4_cellAt lkX4_70 (m_cellAt hgeo hms (a := b) (by omega)) (by decide +kernel) (by decide) rfl (Nat.le_of_ble_eq_true rfl) rfl (by decide) ?_
      refine M.blk (is := [(.iload_n 1, 1, 0, 0)]) (pc1 := 8) (lo1 := [(0, .ref 0), (1, .int (nI k)), (2, .int (nI b))]) (st1 := [.int (nI k), .int (nI ((f * b + h) % (r * c)))]) (w1 := (WM MA MS Mh v)) (by decide +kernel) rfl ?_
      refine M.icmp_eq (off := 9) (tgt := 17) (nx := 11) (by decide +kernel) (fun z8 => by exfalso; have e := nI_inj (Nat.lt_trans (Nat.mod_lt _ (by omega)) (by omega)) (by omega) z8; have := mod_inj hgeo.2.2.2.1 (show b < r * c by omega) ha (e.trans hk.symm); omega) (fun z8 => ?_)
      refine M.blk (is := [(.iinc 2 1, 2, 0, 1), (.goto (-12), 2, 0, 0)]) (pc1 := 2) (lo1 := [(2, .int ((nI b) + 1)), (0, .ref 0), (1, .int (nI k))]) (st1 := []) (w1 := (WM MA MS Mh v)) (by decide +kernel) rfl ?_
      refine M.lsub [1, 2, 0] (lo1 := [(0, .ref 0), (1, .int (nI k)), (2, .int ((nI b) + 1))]) rfl ?_
      rw [nI_1]
      exact ih (b + 1) (by omega)
  show g 0 0 0 [(0, .ref 0), (1, .int (nI k))] [] (WM MA MS Mh v)
  refine M.blk (is := [(.iconst 0, 0, 0, 0), (.istore_n 2, 2, 0, 0)]) (pc1 := 2) (lo1 := [(2, .int 0), (0, .ref 0), (1, .int (nI k))]) (st1 := []) (w1 := (WM MA MS Mh v)) (by decide +kernel) rfl ?_
  refine M.lsub [1, 2, 0] (lo1 := [(0, .ref 0), (1, .int (nI k)), (2, .int 0)]) rfl ?_
  exact lp a 0 (by omega)
theorem if01 {P : Prop} [Decidable P] {x : Int32} (e : x = if P then (1 : Int32) else 0) (h : ¬ x = 0) : P := by
  by_cases hp : P
  · exact hp
  · rw [if_neg hp] at e; exact absurd e h
theorem wfm {a n : Nat} (h : a < n) (hn : n ≤ 25) : withF (nI a + (-1)) 0 (nI n - 1) = if 0 < a then 1 else 0 := by
  rcases Nat.eq_zero_or_pos a with e | e
  · subst e
    rw [if_neg (Nat.lt_irrefl _)]
    unfold withF
    rw [if_pos (by decide)]
  · rw [if_pos e, show nI a + (-1) = nI (a - 1) by rw [← pk_m1 (a - 1), Nat.sub_add_cancel e], show nI n - 1 = nI (n - 1) by rw [show (1 : Int32) = nI 1 from rfl, pk_sub (by omega)]]
    unfold withF
    rw [if_neg (nI_pos (by omega)), if_neg (nI_nlt (by omega) (by omega))]
theorem wfp {a n : Nat} (h : a < n) (hn : n ≤ 25) : withF (nI a + 1) 0 (nI n - 1) = if a + 1 < n then 1 else 0 := by
  rw [nI_1, show nI n - 1 = nI (n - 1) by rw [show (1 : Int32) = nI 1 from rfl, pk_sub (by omega)]]
  unfold withF
  rw [if_neg (nI_pos (by omega))]
  by_cases e : a + 1 < n
  · rw [if_pos e, if_neg (nI_nlt (by omega) (by omega))]
  · rw [if_neg e, if_pos (nI_lt (by omega) (by omega))]
theorem wfz {a n : Nat} (h : a < n) (hn : n ≤ 25) : withF (nI a + 0) 0 (nI n - 1) = 1 := by
  rw [nI_a0, show nI n - 1 = nI (n - 1) by rw [show (1 : Int32) = nI 1 from rfl, pk_sub (by omega)]]
  unfold withF
  rw [if_neg (nI_pos (by omega)), if_neg (nI_nlt (by omega) (by omega))]
theorem nI_v0 {c k a b : Nat} (h0 : 0 < c) (h : 0 < a) (e : c * a + b = k) : nI c * (nI a + (-1)) + (nI b + 0) = nI (k - c) := by
  have h1 : c * (a - 1) + b = k - c := by
    obtain ⟨a, rfl⟩ : ∃ z, a = z + 1 := ⟨a - 1, by omega⟩
    rw [Nat.mul_add] at e
    rw [Nat.add_sub_cancel]
    omega
  rw [nI_a0, show nI a + (-1) = nI (a - 1) by rw [← pk_m1 (a - 1), Nat.sub_add_cancel h], pk_mul, nI_add, h1]
theorem nI_v1 {c k a b : Nat} (e : c * a + b = k) : nI c * (nI a + 0) + (nI b + 1) = nI (k + 1) := by
  rw [nI_a0, nI_1, pk_mul, nI_add]
  congr 1
  omega
theorem nI_v2 {c k a b : Nat} (e : c * a + b = k) : nI c * (nI a + 1) + (nI b + 0) = nI (k + c) := by
  rw [nI_a0, nI_1, pk_mul, nI_add]
  congr 1
  rw [Nat.mul_add]
  omega
theorem nI_v3 {c k a b : Nat} (h : 0 < b) (e : c * a + b = k) : nI c * (nI a + 0) + (nI b + (-1)) = nI (k - 1) := by
  rw [nI_a0, show nI b + (-1) = nI (b - 1) by rw [← pk_m1 (b - 1), Nat.sub_add_cancel h], pk_mul, nI_add]
  congr 1
  omega
theorem m_beside {r c f h t : Nat} (hgeo : GeoOk r c f h t) (hms : MSok r c f h t MS) {k : Nat} (hk : k < r * c) {d : Nat} (hd : d < 4) : CC 1 mX4_beside 0 0 [.ref 0, .int (nI k), .int (nI d)] (WM MA MS Mh v) (Rt (oI (nbO r c k d)) (WM MA MS Mh v)) := by
  have h25 : r * c ≤ 25 := Nat.mul_le_mul hgeo.1.2 hgeo.2.1.2
  have h9a : 9 ≤ r * c := Nat.mul_le_mul hgeo.1.1 hgeo.2.1.1
  have hc5 := hgeo.2.1
  have hr5 := hgeo.1
  have hrow : k / c < r := by rw [Nat.div_lt_iff_lt_mul (by omega)]; exact hk
  have hcol : k % c < c := Nat.mod_lt _ (by omega)
  have hdm := Nat.div_add_mod k c
  rcases (show d = 0 ∨ d = 1 ∨ d = 2 ∨ d = 3 by omega) with rfl | rfl | rfl | rfl
  · refine CC.of okX4_beside.1 (Nat.le_of_ble_eq_true rfl) (fun g M => ?_)
    show g 0 0 0 [(0, .ref 0), (1, .int (nI k)), (2, .int 0)] [] (WM MA MS Mh v)
    refine M.blk (is := [(.iload_n 1, 1, 0, 0), (.aload_n 0, 0, 0, 0), (.getfield 20, 4, 5, 0)]) (pc1 := 5) (lo1 := [(0, .ref 0), (1, .int (nI k)), (2, .int 0)]) (st1 := [.int (MS 5), .int (nI k)]) (w1 := (WM MA MS Mh v)) (by decide +kernel) rfl ?_
    refine M.idv (nx := 6) (by decide +kernel) (by rw [hms.2.1]; exact nI_ne0 (by omega) (by omega)) ?_
    rw [show nI k / MS 5 = nI (k / c) by rw [hms.2.1, pk_div (by omega) (by omega) (by omega)]]
    refine M.blk (is := [(.iload_n 2, 2, 0, 0)]) (pc1 := 7) (lo1 := [(0, .ref 0), (1, .int (nI k)), (2, .int 0)]) (st1 := [.int 0, .int (nI (k / c))]) (w1 := (WM MA MS Mh v)) (by decide +kernel) rfl ?_
    refine M.if_ne (off := 7) (tgt := 14) (nx := 10) (by decide +kernel) (fun h => absurd h (by decide)) (fun _ => ?_)
    refine M.blk (is := [(.iconst (-1), 0, 0, (-1)), (.goto 13, 24, 0, 0), (.iadd, 0, 0, 0), (.istore_n 3, 3, 0, 0), (.iload_n 1, 1, 0, 0), (.aload_n 0, 0, 0, 0), (.getfield 20, 4, 5, 0)]) (pc1 := 31) (lo1 := [(3, .int ((nI (k / c)) + (-1))), (0, .ref 0), (1, .int (nI k)), (2, .int 0)]) (st1 := [.int (MS 5), .int (nI k)]) (w1 := (WM MA MS Mh v)) (by decide +kernel) rfl ?_
    refine M.irm (nx := 32) (by decide +kernel) (by rw [hms.2.1]; exact nI_ne0 (by omega) (by omega)) ?_
    rw [show jrem (nI k) (MS 5) = nI (k % c) by rw [hms.2.1, hf_rem (by omega) (by omega) (by omega)]]
    refine M.blk (is := [(.iload_n 2, 2, 0, 0), (.iconst 1, 0, 0, 1)]) (pc1 := 34) (lo1 := [(3, .int ((nI (k / c)) + (-1))), (0, .ref 0), (1, .int (nI k)), (2, .int 0)]) (st1 := [.int 1, .int 0, .int (nI (k % c))]) (w1 := (WM MA MS Mh v)) (by decide +kernel) rfl ?_
    refine M.icmp_ne (off := 7) (tgt := 41) (nx := 37) (by decide +kernel) (fun _ => ?_) (fun h => absurd h (by decide))
    refine M.blk (is := [(.iload_n 2, 2, 0, 0), (.iconst 3, 0, 0, 3)]) (pc1 := 43) (lo1 := [(3, .int ((nI (k / c)) + (-1))), (0, .ref 0), (1, .int (nI k)), (2, .int 0)]) (st1 := [.int 3, .int 0, .int (nI (k % c))]) (w1 := (WM MA MS Mh v)) (by decide +kernel) rfl ?_
    refine M.icmp_ne (off := 7) (tgt := 50) (nx := 46) (by decide +kernel) (fun _ => ?_) (fun h => absurd h (by decide))
    refine M.blk (is := [(.iconst 0, 0, 0, 0), (.iadd, 0, 0, 0), (.istore 4, 4, 0, 0), (.iload_n 3, 3, 0, 0), (.iconst 0, 0, 0, 0), (.aload_n 0, 0, 0, 0), (.getfield 16, 4, 4, 0), (.iconst 1, 0, 0, 1), (.isub, 0, 0, 0)]) (pc1 := 62) (lo1 := [(4, .int ((nI (k % c)) + 0)), (3, .int ((nI (k / c)) + (-1))), (0, .ref 0), (1, .int (nI k)), (2, .int 0)]) (st1 := [.int ((MS 4) - 1), .int 0, .int ((nI (k / c)) + (-1))]) (w1 := (WM MA MS Mh v)) (by decide +kernel) rfl ?_
    refine M.callSi (as := [.int ((nI (k / c)) + (-1)), .int 0, .int ((MS 4) - 1)]) (st := []) (nx := 65) okX4_within lkX4_36 (s_within (WM MA MS Mh v) ((nI (k / c)) + (-1)) 0 ((MS 4) - 1)) (by decide +kernel) (by decide) rfl (Nat.le_of_ble_eq_true rfl) ?_
    refine M.if_eq (off := 30) (tgt := 95) (nx := 68) (by decide +kernel) (fun z65 => ?_) (fun z65 => ?_)
    · refine M.blk (is := [(.iconst (-1), 0, 0, (-1))]) (pc1 := 96) (lo1 := [(4, .int ((nI (k % c)) + 0)), (3, .int ((nI (k / c)) + (-1))), (0, .ref 0), (1, .int (nI k)), (2, .int 0)]) (st1 := [.int (-1)]) (w1 := (WM MA MS Mh v)) (by decide +kernel) rfl ?_
      exact M.reti (nx := 97) (by decide +kernel) ⟨by rw [nb0, if_neg (fun h : 0 < k / c => by rw [hms.1, wfm hrow (by omega)] at z65; rw [if_pos h] at z65; exact absurd z65 (by decide))]; rfl, rfl⟩
    · refine M.blk (is := [(.iload 4, 4, 0, 0), (.iconst 0, 0, 0, 0), (.aload_n 0, 0, 0, 0), (.getfield 20, 4, 5, 0), (.iconst 1, 0, 0, 1), (.isub, 0, 0, 0)]) (pc1 := 77) (lo1 := [(4, .int ((nI (k % c)) + 0)), (3, .int ((nI (k / c)) + (-1))), (0, .ref 0), (1, .int (nI k)), (2, .int 0)]) (st1 := [.int ((MS 5) - 1), .int 0, .int ((nI (k % c)) + 0)]) (w1 := (WM MA MS Mh v)) (by decide +kernel) rfl ?_
      refine M.callSi (as := [.int ((nI (k % c)) + 0), .int 0, .int ((MS 5) - 1)]) (st := []) (nx := 80) okX4_within lkX4_36 (s_within (WM MA MS Mh v) ((nI (k % c)) + 0) 0 ((MS 5) - 1)) (by decide +kernel) (by decide) rfl (Nat.le_of_ble_eq_true rfl) ?_
      refine M.if_eq (off := 15) (tgt := 95) (nx := 83) (by decide +kernel) (fun z80 => by exfalso; rw [hms.2.1, wfz hcol (by omega)] at z80; exact absurd z80 (by decide)) (fun z80 => ?_)
      refine M.blk (is := [(.aload_n 0, 0, 0, 0), (.getfield 20, 4, 5, 0), (.iload_n 3, 3, 0, 0), (.imul, 0, 0, 0), (.iload 4, 4, 0, 0), (.iadd, 0, 0, 0), (.goto 4, 96, 0, 0)]) (pc1 := 96) (lo1 := [(4, .int ((nI (k % c)) + 0)), (3, .int ((nI (k / c)) + (-1))), (0, .ref 0), (1, .int (nI k)), (2, .int 0)]) (st1 := [.int (((MS 5) * ((nI (k / c)) + (-1))) + ((nI (k % c)) + 0))]) (w1 := (WM MA MS Mh v)) (by decide +kernel) rfl ?_
      exact M.reti (nx := 97) (by decide +kernel) ⟨by have hc2 : 0 < k / c := if01 (by rw [hms.1]; exact wfm hrow (by omega)) z65; rw [nb0, if_pos hc2, hms.2.1, nI_v0 (by omega) hc2 hdm]; rfl, rfl⟩
  · refine CC.of okX4_beside.1 (Nat.le_of_ble_eq_true rfl) (fun g M => ?_)
    show g 0 0 0 [(0, .ref 0), (1, .int (nI k)), (2, .int 1)] [] (WM MA MS Mh v)
    refine M.blk (is := [(.iload_n 1, 1, 0, 0), (.aload_n 0, 0, 0, 0), (.getfield 20, 4, 5, 0)]) (pc1 := 5) (lo1 := [(0, .ref 0), (1, .int (nI k)), (2, .int 1)]) (st1 := [.int (MS 5), .int (nI k)]) (w1 := (WM MA MS Mh v)) (by decide +kernel) rfl ?_
    refine M.idv (nx := 6) (by decide +kernel) (by rw [hms.2.1]; exact nI_ne0 (by omega) (by omega)) ?_
    rw [show nI k / MS 5 = nI (k / c) by rw [hms.2.1, pk_div (by omega) (by omega) (by omega)]]
    refine M.blk (is := [(.iload_n 2, 2, 0, 0)]) (pc1 := 7) (lo1 := [(0, .ref 0), (1, .int (nI k)), (2, .int 1)]) (st1 := [.int 1, .int (nI (k / c))]) (w1 := (WM MA MS Mh v)) (by decide +kernel) rfl ?_
    refine M.if_ne (off := 7) (tgt := 14) (nx := 10) (by decide +kernel) (fun _ => ?_) (fun h => absurd h (by decide))
    refine M.blk (is := [(.iload_n 2, 2, 0, 0), (.iconst 2, 0, 0, 2)]) (pc1 := 16) (lo1 := [(0, .ref 0), (1, .int (nI k)), (2, .int 1)]) (st1 := [.int 2, .int 1, .int (nI (k / c))]) (w1 := (WM MA MS Mh v)) (by decide +kernel) rfl ?_
    refine M.icmp_ne (off := 7) (tgt := 23) (nx := 19) (by decide +kernel) (fun _ => ?_) (fun h => absurd h (by decide))
    refine M.blk (is := [(.iconst 0, 0, 0, 0), (.iadd, 0, 0, 0), (.istore_n 3, 3, 0, 0), (.iload_n 1, 1, 0, 0), (.aload_n 0, 0, 0, 0), (.getfield 20, 4, 5, 0)]) (pc1 := 31) (lo1 := [(3, .int ((nI (k / c)) + 0)), (0, .ref 0), (1, .int (nI k)), (2, .int 1)]) (st1 := [.int (MS 5), .int (nI k)]) (w1 := (WM MA MS Mh v)) (by decide +kernel) rfl ?_
    refine M.irm (nx := 32) (by decide +kernel) (by rw [hms.2.1]; exact nI_ne0 (by omega) (by omega)) ?_
    rw [show jrem (nI k) (MS 5) = nI (k % c) by rw [hms.2.1, hf_rem (by omega) (by omega) (by omega)]]
    refine M.blk (is := [(.iload_n 2, 2, 0, 0), (.iconst 1, 0, 0, 1)]) (pc1 := 34) (lo1 := [(3, .int ((nI (k / c)) + 0)), (0, .ref 0), (1, .int (nI k)), (2, .int 1)]) (st1 := [.int 1, .int 1, .int (nI (k % c))]) (w1 := (WM MA MS Mh v)) (by decide +kernel) rfl ?_
    refine M.icmp_ne (off := 7) (tgt := 41) (nx := 37) (by decide +kernel) (fun h => absurd h (by decide)) (fun _ => ?_)
    refine M.blk (is := [(.iconst 1, 0, 0, 1), (.goto 13, 51, 0, 0), (.iadd, 0, 0, 0), (.istore 4, 4, 0, 0), (.iload_n 3, 3, 0, 0), (.iconst 0, 0, 0, 0), (.aload_n 0, 0, 0, 0), (.getfield 16, 4, 4, 0), (.iconst 1, 0, 0, 1), (.isub, 0, 0, 0)]) (pc1 := 62) (lo1 := [(4, .int ((nI (k % c)) + 1)), (3, .int ((nI (k / c)) + 0)), (0, .ref 0), (1, .int (nI k)), (2, .int 1)]) (st1 := [.int ((MS 4) - 1), .int 0, .int ((nI (k / c)) + 0)]) (w1 := (WM MA MS Mh v)) (by decide +kernel) rfl ?_
    refine M.callSi (as := [.int ((nI (k / c)) + 0), .int 0, .int ((MS 4) - 1)]) (st := []) (nx := 65) okX4_within lkX4_36 (s_within (WM MA MS Mh v) ((nI (k / c)) + 0) 0 ((MS 4) - 1)) (by decide +kernel) (by decide) rfl (Nat.le_of_ble_eq_true rfl) ?_
    refine M.if_eq (off := 30) (tgt := 95) (nx := 68) (by decide +kernel) (fun z65 => by exfalso; rw [hms.1, wfz hrow (by omega)] at z65; exact absurd z65 (by decide)) (fun z65 => ?_)
    refine M.blk (is := [(.iload 4, 4, 0, 0), (.iconst 0, 0, 0, 0), (.aload_n 0, 0, 0, 0), (.getfield 20, 4, 5, 0), (.iconst 1, 0, 0, 1), (.isub, 0, 0, 0)]) (pc1 := 77) (lo1 := [(4, .int ((nI (k % c)) + 1)), (3, .int ((nI (k / c)) + 0)), (0, .ref 0), (1, .int (nI k)), (2, .int 1)]) (st1 := [.int ((MS 5) - 1), .int 0, .int ((nI (k % c)) + 1)]) (w1 := (WM MA MS Mh v)) (by decide +kernel) rfl ?_
    refine M.callSi (as := [.int ((nI (k % c)) + 1), .int 0, .int ((MS 5) - 1)]) (st := []) (nx := 80) okX4_within lkX4_36 (s_within (WM MA MS Mh v) ((nI (k % c)) + 1) 0 ((MS 5) - 1)) (by decide +kernel) (by decide) rfl (Nat.le_of_ble_eq_true rfl) ?_
    refine M.if_eq (off := 15) (tgt := 95) (nx := 83) (by decide +kernel) (fun z80 => ?_) (fun z80 => ?_)
    · refine M.blk (is := [(.iconst (-1), 0, 0, (-1))]) (pc1 := 96) (lo1 := [(4, .int ((nI (k % c)) + 1)), (3, .int ((nI (k / c)) + 0)), (0, .ref 0), (1, .int (nI k)), (2, .int 1)]) (st1 := [.int (-1)]) (w1 := (WM MA MS Mh v)) (by decide +kernel) rfl ?_
      exact M.reti (nx := 97) (by decide +kernel) ⟨by rw [nb1, if_neg (fun h : k % c + 1 < c => by rw [hms.2.1, wfp hcol (by omega)] at z80; rw [if_pos h] at z80; exact absurd z80 (by decide))]; rfl, rfl⟩
    · refine M.blk (is := [(.aload_n 0, 0, 0, 0), (.getfield 20, 4, 5, 0), (.iload_n 3, 3, 0, 0), (.imul, 0, 0, 0), (.iload 4, 4, 0, 0), (.iadd, 0, 0, 0), (.goto 4, 96, 0, 0)]) (pc1 := 96) (lo1 := [(4, .int ((nI (k % c)) + 1)), (3, .int ((nI (k / c)) + 0)), (0, .ref 0), (1, .int (nI k)), (2, .int 1)]) (st1 := [.int (((MS 5) * ((nI (k / c)) + 0)) + ((nI (k % c)) + 1))]) (w1 := (WM MA MS Mh v)) (by decide +kernel) rfl ?_
      exact M.reti (nx := 97) (by decide +kernel) ⟨by have hc2 : k % c + 1 < c := if01 (by rw [hms.2.1]; exact wfp hcol (by omega)) z80; rw [nb1, if_pos hc2, hms.2.1, nI_v1 hdm]; rfl, rfl⟩
  · refine CC.of okX4_beside.1 (Nat.le_of_ble_eq_true rfl) (fun g M => ?_)
    show g 0 0 0 [(0, .ref 0), (1, .int (nI k)), (2, .int 2)] [] (WM MA MS Mh v)
    refine M.blk (is := [(.iload_n 1, 1, 0, 0), (.aload_n 0, 0, 0, 0), (.getfield 20, 4, 5, 0)]) (pc1 := 5) (lo1 := [(0, .ref 0), (1, .int (nI k)), (2, .int 2)]) (st1 := [.int (MS 5), .int (nI k)]) (w1 := (WM MA MS Mh v)) (by decide +kernel) rfl ?_
    refine M.idv (nx := 6) (by decide +kernel) (by rw [hms.2.1]; exact nI_ne0 (by omega) (by omega)) ?_
    rw [show nI k / MS 5 = nI (k / c) by rw [hms.2.1, pk_div (by omega) (by omega) (by omega)]]
    refine M.blk (is := [(.iload_n 2, 2, 0, 0)]) (pc1 := 7) (lo1 := [(0, .ref 0), (1, .int (nI k)), (2, .int 2)]) (st1 := [.int 2, .int (nI (k / c))]) (w1 := (WM MA MS Mh v)) (by decide +kernel) rfl ?_
    refine M.if_ne (off := 7) (tgt := 14) (nx := 10) (by decide +kernel) (fun _ => ?_) (fun h => absurd h (by decide))
    refine M.blk (is := [(.iload_n 2, 2, 0, 0), (.iconst 2, 0, 0, 2)]) (pc1 := 16) (lo1 := [(0, .ref 0), (1, .int (nI k)), (2, .int 2)]) (st1 := [.int 2, .int 2, .int (nI (k / c))]) (w1 := (WM MA MS Mh v)) (by decide +kernel) rfl ?_
    refine M.icmp_ne (off := 7) (tgt := 23) (nx := 19) (by decide +kernel) (fun h => absurd h (by decide)) (fun _ => ?_)
    refine M.blk (is := [(.iconst 1, 0, 0, 1), (.goto 4, 24, 0, 0), (.iadd, 0, 0, 0), (.istore_n 3, 3, 0, 0), (.iload_n 1, 1, 0, 0), (.aload_n 0, 0, 0, 0), (.getfield 20, 4, 5, 0)]) (pc1 := 31) (lo1 := [(3, .int ((nI (k / c)) + 1)), (0, .ref 0), (1, .int (nI k)), (2, .int 2)]) (st1 := [.int (MS 5), .int (nI k)]) (w1 := (WM MA MS Mh v)) (by decide +kernel) rfl ?_
    refine M.irm (nx := 32) (by decide +kernel) (by rw [hms.2.1]; exact nI_ne0 (by omega) (by omega)) ?_
    rw [show jrem (nI k) (MS 5) = nI (k % c) by rw [hms.2.1, hf_rem (by omega) (by omega) (by omega)]]
    refine M.blk (is := [(.iload_n 2, 2, 0, 0), (.iconst 1, 0, 0, 1)]) (pc1 := 34) (lo1 := [(3, .int ((nI (k / c)) + 1)), (0, .ref 0), (1, .int (nI k)), (2, .int 2)]) (st1 := [.int 1, .int 2, .int (nI (k % c))]) (w1 := (WM MA MS Mh v)) (by decide +kernel) rfl ?_
    refine M.icmp_ne (off := 7) (tgt := 41) (nx := 37) (by decide +kernel) (fun _ => ?_) (fun h => absurd h (by decide))
    refine M.blk (is := [(.iload_n 2, 2, 0, 0), (.iconst 3, 0, 0, 3)]) (pc1 := 43) (lo1 := [(3, .int ((nI (k / c)) + 1)), (0, .ref 0), (1, .int (nI k)), (2, .int 2)]) (st1 := [.int 3, .int 2, .int (nI (k % c))]) (w1 := (WM MA MS Mh v)) (by decide +kernel) rfl ?_
    refine M.icmp_ne (off := 7) (tgt := 50) (nx := 46) (by decide +kernel) (fun _ => ?_) (fun h => absurd h (by decide))
    refine M.blk (is := [(.iconst 0, 0, 0, 0), (.iadd, 0, 0, 0), (.istore 4, 4, 0, 0), (.iload_n 3, 3, 0, 0), (.iconst 0, 0, 0, 0), (.aload_n 0, 0, 0, 0), (.getfield 16, 4, 4, 0), (.iconst 1, 0, 0, 1), (.isub, 0, 0, 0)]) (pc1 := 62) (lo1 := [(4, .int ((nI (k % c)) + 0)), (3, .int ((nI (k / c)) + 1)), (0, .ref 0), (1, .int (nI k)), (2, .int 2)]) (st1 := [.int ((MS 4) - 1), .int 0, .int ((nI (k / c)) + 1)]) (w1 := (WM MA MS Mh v)) (by decide +kernel) rfl ?_
    refine M.callSi (as := [.int ((nI (k / c)) + 1), .int 0, .int ((MS 4) - 1)]) (st := []) (nx := 65) okX4_within lkX4_36 (s_within (WM MA MS Mh v) ((nI (k / c)) + 1) 0 ((MS 4) - 1)) (by decide +kernel) (by decide) rfl (Nat.le_of_ble_eq_true rfl) ?_
    refine M.if_eq (off := 30) (tgt := 95) (nx := 68) (by decide +kernel) (fun z65 => ?_) (fun z65 => ?_)
    · refine M.blk (is := [(.iconst (-1), 0, 0, (-1))]) (pc1 := 96) (lo1 := [(4, .int ((nI (k % c)) + 0)), (3, .int ((nI (k / c)) + 1)), (0, .ref 0), (1, .int (nI k)), (2, .int 2)]) (st1 := [.int (-1)]) (w1 := (WM MA MS Mh v)) (by decide +kernel) rfl ?_
      exact M.reti (nx := 97) (by decide +kernel) ⟨by rw [nb2, if_neg (fun h : k / c + 1 < r => by rw [hms.1, wfp hrow (by omega)] at z65; rw [if_pos h] at z65; exact absurd z65 (by decide))]; rfl, rfl⟩
    · refine M.blk (is := [(.iload 4, 4, 0, 0), (.iconst 0, 0, 0, 0), (.aload_n 0, 0, 0, 0), (.getfield 20, 4, 5, 0), (.iconst 1, 0, 0, 1), (.isub, 0, 0, 0)]) (pc1 := 77) (lo1 := [(4, .int ((nI (k % c)) + 0)), (3, .int ((nI (k / c)) + 1)), (0, .ref 0), (1, .int (nI k)), (2, .int 2)]) (st1 := [.int ((MS 5) - 1), .int 0, .int ((nI (k % c)) + 0)]) (w1 := (WM MA MS Mh v)) (by decide +kernel) rfl ?_
      refine M.callSi (as := [.int ((nI (k % c)) + 0), .int 0, .int ((MS 5) - 1)]) (st := []) (nx := 80) okX4_within lkX4_36 (s_within (WM MA MS Mh v) ((nI (k % c)) + 0) 0 ((MS 5) - 1)) (by decide +kernel) (by decide) rfl (Nat.le_of_ble_eq_true rfl) ?_
      refine M.if_eq (off := 15) (tgt := 95) (nx := 83) (by decide +kernel) (fun z80 => by exfalso; rw [hms.2.1, wfz hcol (by omega)] at z80; exact absurd z80 (by decide)) (fun z80 => ?_)
      refine M.blk (is := [(.aload_n 0, 0, 0, 0), (.getfield 20, 4, 5, 0), (.iload_n 3, 3, 0, 0), (.imul, 0, 0, 0), (.iload 4, 4, 0, 0), (.iadd, 0, 0, 0), (.goto 4, 96, 0, 0)]) (pc1 := 96) (lo1 := [(4, .int ((nI (k % c)) + 0)), (3, .int ((nI (k / c)) + 1)), (0, .ref 0), (1, .int (nI k)), (2, .int 2)]) (st1 := [.int (((MS 5) * ((nI (k / c)) + 1)) + ((nI (k % c)) + 0))]) (w1 := (WM MA MS Mh v)) (by decide +kernel) rfl ?_
      exact M.reti (nx := 97) (by decide +kernel) ⟨by have hc2 : k / c + 1 < r := if01 (by rw [hms.1]; exact wfp hrow (by omega)) z65; rw [nb2, if_pos hc2, hms.2.1, nI_v2 hdm]; rfl, rfl⟩
  · refine CC.of okX4_beside.1 (Nat.le_of_ble_eq_true rfl) (fun g M => ?_)
    show g 0 0 0 [(0, .ref 0), (1, .int (nI k)), (2, .int 3)] [] (WM MA MS Mh v)
    refine M.blk (is := [(.iload_n 1, 1, 0, 0), (.aload_n 0, 0, 0, 0), (.getfield 20, 4, 5, 0)]) (pc1 := 5) (lo1 := [(0, .ref 0), (1, .int (nI k)), (2, .int 3)]) (st1 := [.int (MS 5), .int (nI k)]) (w1 := (WM MA MS Mh v)) (by decide +kernel) rfl ?_
    refine M.idv (nx := 6) (by decide +kernel) (by rw [hms.2.1]; exact nI_ne0 (by omega) (by omega)) ?_
    rw [show nI k / MS 5 = nI (k / c) by rw [hms.2.1, pk_div (by omega) (by omega) (by omega)]]
    refine M.blk (is := [(.iload_n 2, 2, 0, 0)]) (pc1 := 7) (lo1 := [(0, .ref 0), (1, .int (nI k)), (2, .int 3)]) (st1 := [.int 3, .int (nI (k / c))]) (w1 := (WM MA MS Mh v)) (by decide +kernel) rfl ?_
    refine M.if_ne (off := 7) (tgt := 14) (nx := 10) (by decide +kernel) (fun _ => ?_) (fun h => absurd h (by decide))
    refine M.blk (is := [(.iload_n 2, 2, 0, 0), (.iconst 2, 0, 0, 2)]) (pc1 := 16) (lo1 := [(0, .ref 0), (1, .int (nI k)), (2, .int 3)]) (st1 := [.int 2, .int 3, .int (nI (k / c))]) (w1 := (WM MA MS Mh v)) (by decide +kernel) rfl ?_
    refine M.icmp_ne (off := 7) (tgt := 23) (nx := 19) (by decide +kernel) (fun _ => ?_) (fun h => absurd h (by decide))
    refine M.blk (is := [(.iconst 0, 0, 0, 0), (.iadd, 0, 0, 0), (.istore_n 3, 3, 0, 0), (.iload_n 1, 1, 0, 0), (.aload_n 0, 0, 0, 0), (.getfield 20, 4, 5, 0)]) (pc1 := 31) (lo1 := [(3, .int ((nI (k / c)) + 0)), (0, .ref 0), (1, .int (nI k)), (2, .int 3)]) (st1 := [.int (MS 5), .int (nI k)]) (w1 := (WM MA MS Mh v)) (by decide +kernel) rfl ?_
    refine M.irm (nx := 32) (by decide +kernel) (by rw [hms.2.1]; exact nI_ne0 (by omega) (by omega)) ?_
    rw [show jrem (nI k) (MS 5) = nI (k % c) by rw [hms.2.1, hf_rem (by omega) (by omega) (by omega)]]
    refine M.blk (is := [(.iload_n 2, 2, 0, 0), (.iconst 1, 0, 0, 1)]) (pc1 := 34) (lo1 := [(3, .int ((nI (k / c)) + 0)), (0, .ref 0), (1, .int (nI k)), (2, .int 3)]) (st1 := [.int 1, .int 3, .int (nI (k % c))]) (w1 := (WM MA MS Mh v)) (by decide +kernel) rfl ?_
    refine M.icmp_ne (off := 7) (tgt := 41) (nx := 37) (by decide +kernel) (fun _ => ?_) (fun h => absurd h (by decide))
    refine M.blk (is := [(.iload_n 2, 2, 0, 0), (.iconst 3, 0, 0, 3)]) (pc1 := 43) (lo1 := [(3, .int ((nI (k / c)) + 0)), (0, .ref 0), (1, .int (nI k)), (2, .int 3)]) (st1 := [.int 3, .int 3, .int (nI (k % c))]) (w1 := (WM MA MS Mh v)) (by decide +kernel) rfl ?_
    refine M.icmp_ne (off := 7) (tgt := 50) (nx := 46) (by decide +kernel) (fun h => absurd h (by decide)) (fun _ => ?_)
    refine M.blk (is := [(.iconst (-1), 0, 0, (-1)), (.goto 4, 51, 0, 0), (.iadd, 0, 0, 0), (.istore 4, 4, 0, 0), (.iload_n 3, 3, 0, 0), (.iconst 0, 0, 0, 0), (.aload_n 0, 0, 0, 0), (.getfield 16, 4, 4, 0), (.iconst 1, 0, 0, 1), (.isub, 0, 0, 0)]) (pc1 := 62) (lo1 := [(4, .int ((nI (k % c)) + (-1))), (3, .int ((nI (k / c)) + 0)), (0, .ref 0), (1, .int (nI k)), (2, .int 3)]) (st1 := [.int ((MS 4) - 1), .int 0, .int ((nI (k / c)) + 0)]) (w1 := (WM MA MS Mh v)) (by decide +kernel) rfl ?_
    refine M.callSi (as := [.int ((nI (k / c)) + 0), .int 0, .int ((MS 4) - 1)]) (st := []) (nx := 65) okX4_within lkX4_36 (s_within (WM MA MS Mh v) ((nI (k / c)) + 0) 0 ((MS 4) - 1)) (by decide +kernel) (by decide) rfl (Nat.le_of_ble_eq_true rfl) ?_
    refine M.if_eq (off := 30) (tgt := 95) (nx := 68) (by decide +kernel) (fun z65 => by exfalso; rw [hms.1, wfz hrow (by omega)] at z65; exact absurd z65 (by decide)) (fun z65 => ?_)
    refine M.blk (is := [(.iload 4, 4, 0, 0), (.iconst 0, 0, 0, 0), (.aload_n 0, 0, 0, 0), (.getfield 20, 4, 5, 0), (.iconst 1, 0, 0, 1), (.isub, 0, 0, 0)]) (pc1 := 77) (lo1 := [(4, .int ((nI (k % c)) + (-1))), (3, .int ((nI (k / c)) + 0)), (0, .ref 0), (1, .int (nI k)), (2, .int 3)]) (st1 := [.int ((MS 5) - 1), .int 0, .int ((nI (k % c)) + (-1))]) (w1 := (WM MA MS Mh v)) (by decide +kernel) rfl ?_
    refine M.callSi (as := [.int ((nI (k % c)) + (-1)), .int 0, .int ((MS 5) - 1)]) (st := []) (nx := 80) okX4_within lkX4_36 (s_within (WM MA MS Mh v) ((nI (k % c)) + (-1)) 0 ((MS 5) - 1)) (by decide +kernel) (by decide) rfl (Nat.le_of_ble_eq_true rfl) ?_
    refine M.if_eq (off := 15) (tgt := 95) (nx := 83) (by decide +kernel) (fun z80 => ?_) (fun z80 => ?_)
    · refine M.blk (is := [(.iconst (-1), 0, 0, (-1))]) (pc1 := 96) (lo1 := [(4, .int ((nI (k % c)) + (-1))), (3, .int ((nI (k / c)) + 0)), (0, .ref 0), (1, .int (nI k)), (2, .int 3)]) (st1 := [.int (-1)]) (w1 := (WM MA MS Mh v)) (by decide +kernel) rfl ?_
      exact M.reti (nx := 97) (by decide +kernel) ⟨by rw [nb3, if_neg (fun h : 0 < k % c => by rw [hms.2.1, wfm hcol (by omega)] at z80; rw [if_pos h] at z80; exact absurd z80 (by decide))]; rfl, rfl⟩
    · refine M.blk (is := [(.aload_n 0, 0, 0, 0), (.getfield 20, 4, 5, 0), (.iload_n 3, 3, 0, 0), (.imul, 0, 0, 0), (.iload 4, 4, 0, 0), (.iadd, 0, 0, 0), (.goto 4, 96, 0, 0)]) (pc1 := 96) (lo1 := [(4, .int ((nI (k % c)) + (-1))), (3, .int ((nI (k / c)) + 0)), (0, .ref 0), (1, .int (nI k)), (2, .int 3)]) (st1 := [.int (((MS 5) * ((nI (k / c)) + 0)) + ((nI (k % c)) + (-1)))]) (w1 := (WM MA MS Mh v)) (by decide +kernel) rfl ?_
      exact M.reti (nx := 97) (by decide +kernel) ⟨by have hc2 : 0 < k % c := if01 (by rw [hms.2.1]; exact wfm hcol (by omega)) z80; rw [nb3, if_pos hc2, hms.2.1, nI_v3 hc2 hdm]; rfl, rfl⟩
end MTWO
