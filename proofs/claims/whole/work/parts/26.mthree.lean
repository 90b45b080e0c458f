section MTHREE
variable {MA : Nat → Nat → Int32} {MS : Nat → Int32} {Mh : Int64} {v : List Cl}
def yOk (y : Int32) : Prop := y = 0 ∨ y = 1 ∨ y = 2 ∨ ∃ d : Nat, d < 4 ∧ y = nI (10 + d)
def cgF (r c t k a : Nat) (y : Int32) : Int32 := if y = 0 then nI (tyN c k) else if y = 1 then nI a else if y = 2 then (nI t >>> (nI (k / c) &&& 31)) &&& 1 else oI (nbO r c k (y - 10).toNatClampNeg)
theorem y10 {d : Nat} (hd : d < 4) : nI (10 + d) - 10 = nI d ∧ (nI (10 + d) - 10).toNatClampNeg = d := by
  have e : nI (10 + d) - 10 = nI d := by rw [show (10 : Int32) = nI 10 from rfl, pk_sub (by omega)]; congr 1; omega
  exact ⟨e, by rw [e, nI_clamp (by omega)]⟩
def pbN (r c : Nat) (B : Int32) (k d : Nat) : Nat := match nbO r c k d with | none => 0 | some m => bN B m
def patN (r c : Nat) (B : Int32) (k : Nat) : Nat := pbN r c B k 0 + (2 * pbN r c B k 1 + (4 * pbN r c B k 2 + 8 * pbN r c B k 3))
theorem pbN_2 (r c : Nat) (B : Int32) (k d : Nat) : pbN r c B k d < 2 := by
  unfold pbN
  split
  · decide
  · exact bN_2 _ _
theorem patN_16 (r c : Nat) (B : Int32) (k : Nat) : patN r c B k < 16 := by
  have h0 := pbN_2 r c B k 0
  have h1 := pbN_2 r c B k 1
  have h2 := pbN_2 r c B k 2
  have h3 := pbN_2 r c B k 3
  unfold patN
  omega
theorem pat_or : ∀ a b c d : Fin 2, ((((0 : Int32) ||| (nI a.val <<< ((0 : Int32) &&& 31))) ||| (nI b.val <<< ((1 : Int32) &&& 31))) ||| (nI c.val <<< ((2 : Int32) &&& 31))) ||| (nI d.val <<< ((3 : Int32) &&& 31)) = nI (a.val + (2 * b.val + (4 * c.val + 8 * d.val))) := by decide +kernel
theorem pat_1 {r c k d : Nat} {B x y : Int32} (hk : k < r * c) (h25 : r * c ≤ 25) (hy : y = if ¬ oI (nbO r c k d) = -1 then ((B >>> (oI (nbO r c k d) &&& 31)) &&& 1) <<< (x &&& 31) else (0 : Int32)) : y = nI (pbN r c B k d) <<< (x &&& 31) := by
  rw [hy]
  unfold pbN
  cases hn : nbO r c k d with
  | none =>
    rw [if_neg (fun h => h rfl)]
    show (0 : Int32) = nI 0 <<< (x &&& 31)
    exact (Int32.zero_shiftLeft).symm
  | some m =>
    have hm := nb_lt hk hn
    have e : oI (some m) = nI m := rfl
    rw [e, if_pos (oI_ne (by omega)), bit_nI B (by omega)]
theorem bes_1 {r c k d : Nat} {x y : Int32} {e : Nat} (hk : k < r * c) (h25 : r * c ≤ 25) (hx : (1 : Int32) <<< (x &&& 31) = nI e) (hy : y = if ¬ oI (nbO r c k d) = -1 then (1 : Int32) <<< (x &&& 31) else 0) : y = if (nbO r c k d).isSome = true then nI e else 0 := by
  rw [hy]
  cases hn : nbO r c k d with
  | none => rw [if_neg (fun h => h rfl)]; rfl
  | some m =>
    have hm := nb_lt hk hn
    have e2 : oI (some m) = nI m := rfl
    rw [e2, if_pos (oI_ne (by omega)), hx]
    rfl
theorem m_cellNow {r c f h t : Nat} (hgeo : GeoOk r c f h t) (hms : MSok r c f h t MS) {k a : Nat} (hk : k < r * c) (ha : a < r * c) (hka : (f * a + h) % (r * c) = k) {y : Int32} (hy : yOk y) : CC 3 mX4_cellNow 0 0 [.ref 0, .int (nI k), .int y] (WM MA MS Mh v) (Rt (cgF r c t k a y) (WM MA MS Mh v)) := by
  refine CC.of okX4_cellNow.1 (Nat.le_of_ble_eq_true rfl) (fun g M => ?_)
  show g 0 0 0 [(0, .ref 0), (1, .int (nI k)), (2, .int y)] [] (WM MA MS Mh v)
  refine M.blk (is := [(.iload_n 2, 2, 0, 0)]) (pc1 := 1) (lo1 := [(0, .ref 0), (1, .int (nI k)), (2, .int y)]) (st1 := [.int y]) (w1 := (WM MA MS Mh v)) (by decide +kernel) rfl ?_
  refine M.if_ne (off := 11) (tgt := 12) (nx := 4) (by decide +kernel) (fun z1 => ?_) (fun z1 => ?_)
  · refine M.blk (is := [(.iload_n 2, 2, 0, 0), (.iconst 1, 0, 0, 1)]) (pc1 := 14) (lo1 := [(0, .ref 0), (1, .int (nI k)), (2, .int y)]) (st1 := [.int 1, .int y]) (w1 := (WM MA MS Mh v)) (by decide +kernel) rfl ?_
    refine M.icmp_ne (off := 11) (tgt := 25) (nx := 17) (by decide +kernel) (fun z14 => ?_) (fun z14 => ?_)
    · refine M.blk (is := [(.iload_n 2, 2, 0, 0), (.iconst 2, 0, 0, 2)]) (pc1 := 27) (lo1 := [(0, .ref 0), (1, .int (nI k)), (2, .int y)]) (st1 := [.int 2, .int y]) (w1 := (WM MA MS Mh v)) (by decide +kernel) rfl ?_
      refine M.icmp_ne (off := 11) (tgt := 38) (nx := 30) (by decide +kernel) (fun z27 => ?_) (fun z27 => ?_)
      · obtain ⟨d, hd, rfl⟩ : ∃ d : Nat, d < 4 ∧ y = nI (10 + d) := ((hy.resolve_left z1).resolve_left z14).resolve_left z27
        refine M.blk (is := [(.aload_n 0, 0, 0, 0), (.iload_n 1, 1, 0, 0), (.iload_n 2, 2, 0, 0), (.bipush 10, 0, 0, 10), (.isub, 0, 0, 0)]) (pc1 := 44) (lo1 := [(0, .ref 0), (1, .int (nI k)), (2, .int (nI (10 + d)))]) (st1 := [.int ((nI (10 + d)) - 10), .int (nI k), .ref 0]) (w1 := (WM MA MS Mh v)) (by decide +kernel) rfl ?_
        rw [(y10 hd).1]
        refine M.callVi (as := [.int (nI k), .int (nI d)]) (st := []) (nx := 47) okX4_beside lkX4_83 (m_beside hgeo hms hk (d := d) (by omega)) (by decide +kernel) (by decide) rfl (Nat.le_of_ble_eq_true rfl) rfl (by decide) ?_
        exact M.reti (nx := 48) (by decide +kernel) ⟨by unfold cgF; rw [if_neg z1, if_neg z14, if_neg z27, (y10 hd).2], rfl⟩
      · refine M.blk (is := [(.aload_n 0, 0, 0, 0), (.iload_n 1, 1, 0, 0)]) (pc1 := 32) (lo1 := [(0, .ref 0), (1, .int (nI k)), (2, .int y)]) (st1 := [.int (nI k), .ref 0]) (w1 := (WM MA MS Mh v)) (by decide +kernel) rfl ?_
        refine M.callVi (as := [.int (nI k)]) (st := []) (nx := 35) okX4_isTurned lkX4_80 (m_isTurned hgeo hms hk) (by decide +kernel) (by decide) rfl (Nat.le_of_ble_eq_true rfl) rfl (by decide) ?_
        refine M.blk (is := [(.goto 12, 47, 0, 0)]) (pc1 := 47) (lo1 := [(0, .ref 0), (1, .int (nI k)), (2, .int y)]) (st1 := [.int ((nI t >>> (nI (k / c) &&& 31)) &&& 1)]) (w1 := (WM MA MS Mh v)) (by decide +kernel) rfl ?_
        exact M.reti (nx := 48) (by decide +kernel) ⟨by simp [cgF, *], rfl⟩
    · refine M.blk (is := [(.aload_n 0, 0, 0, 0), (.iload_n 1, 1, 0, 0)]) (pc1 := 19) (lo1 := [(0, .ref 0), (1, .int (nI k)), (2, .int y)]) (st1 := [.int (nI k), .ref 0]) (w1 := (WM MA MS Mh v)) (by decide +kernel) rfl ?_
      refine M.callVi (as := [.int (nI k)]) (st := []) (nx := 22) okX4_addressOf lkX4_77 (m_addressOf hgeo hms ha hka) (by decide +kernel) (by decide) rfl (Nat.le_of_ble_eq_true rfl) rfl (by decide) ?_
      refine M.blk (is := [(.goto 25, 47, 0, 0)]) (pc1 := 47) (lo1 := [(0, .ref 0), (1, .int (nI k)), (2, .int y)]) (st1 := [.int (nI a)]) (w1 := (WM MA MS Mh v)) (by decide +kernel) rfl ?_
      exact M.reti (nx := 48) (by decide +kernel) ⟨by simp [cgF, *], rfl⟩
  · refine M.blk (is := [(.aload_n 0, 0, 0, 0), (.iload_n 1, 1, 0, 0)]) (pc1 := 6) (lo1 := [(0, .ref 0), (1, .int (nI k)), (2, .int y)]) (st1 := [.int (nI k), .ref 0]) (w1 := (WM MA MS Mh v)) (by decide +kernel) rfl ?_
    refine M.callVi (as := [.int (nI k)]) (st := []) (nx := 9) okX4_typeOf lkX4_74 (m_typeOf hgeo hms hk) (by decide +kernel) (by decide) rfl (Nat.le_of_ble_eq_true rfl) rfl (by decide) ?_
    refine M.blk (is := [(.goto 38, 47, 0, 0)]) (pc1 := 47) (lo1 := [(0, .ref 0), (1, .int (nI k)), (2, .int y)]) (st1 := [.int (nI (tyN c k))]) (w1 := (WM MA MS Mh v)) (by decide +kernel) rfl ?_
    exact M.reti (nx := 48) (by decide +kernel) ⟨by simp [cgF, *], rfl⟩
theorem yOk_wf {y : Int32} : (withF y 0 2 = 0 → withF y 10 13 = 0 → ¬ yOk y) ∧ (¬ withF y 0 2 = 0 → yOk y) ∧ (¬ withF y 10 13 = 0 → yOk y) := by
  have c1 := wf_cases y (a := 0) (b := 2) (by decide) (by decide)
  have c2 := wf_cases y (a := 10) (b := 13) (by decide) (by decide)
  refine ⟨fun h1 h2 hy => ?_, fun h1 => ?_, fun h2 => ?_⟩
  · rcases c1 with ⟨_, c1⟩ | ⟨e, _⟩
    · rcases c2 with ⟨_, c2⟩ | ⟨e, _⟩
      · rcases hy with e | e | e | ⟨d, hd, e⟩
        · exact c1 0 (by decide) (by decide) e
        · exact c1 1 (by decide) (by decide) e
        · exact c1 2 (by decide) (by decide) e
        · exact c2 (10 + d) (by omega) (by omega) e
      · exact absurd (h2.symm.trans e) (by decide)
    · exact absurd (h1.symm.trans e) (by decide)
  · rcases c1 with ⟨e, _⟩ | ⟨_, k, _, hk, e⟩
    · exact absurd e h1
    · rcases (show k = 0 ∨ k = 1 ∨ k = 2 by omega) with rfl | rfl | rfl
      · exact Or.inl e
      · exact Or.inr (Or.inl e)
      · exact Or.inr (Or.inr (Or.inl e))
  · rcases c2 with ⟨e, _⟩ | ⟨_, k, hk1, hk2, e⟩
    · exact absurd e h2
    · exact Or.inr (Or.inr (Or.inr ⟨k - 10, by omega, by rw [e]; congr 1; omega⟩))
theorem m_cell {r c f h t : Nat} (hgeo : GeoOk r c f h t) (hms : MSok r c f h t MS) (x y : Int32) : CC 4 mX4_cell 0 0 [.ref 0, .int x, .int y] (WM MA MS Mh v) (fun r0 w1 => w1 = (WM MA MS Mh v) ∧ (((∀ k, k < r * c → ¬ x = nI k) ∧ r0 = some (.int (-1001))) ∨ (∃ k a, k < r * c ∧ a < r * c ∧ (f * a + h) % (r * c) = k ∧ x = nI k ∧ ((yOk y ∧ r0 = some (.int (cgF r c t k a y))) ∨ (¬ yOk y ∧ r0 = some (.int (-1002))))))) := by
  have h25 : r * c ≤ 25 := Nat.mul_le_mul hgeo.1.2 hgeo.2.1.2
  have h9a : 9 ≤ r * c := Nat.mul_le_mul hgeo.1.1 hgeo.2.1.1
  refine CC.of okX4_cell.1 (Nat.le_of_ble_eq_true rfl) (fun g M => ?_)
  have hcs := wf_sl x (sl := r * c) (by omega)
  show g 0 0 0 [(0, .ref 0), (1, .int x), (2, .int y)] [] (WM MA MS Mh v)
  refine M.blk (is := [(.aload_n 0, 0, 0, 0), (.iload_n 1, 1, 0, 0)]) (pc1 := 2) (lo1 := [(0, .ref 0), (1, .int x), (2, .int y)]) (st1 := [.int x, .ref 0]) (w1 := (WM MA MS Mh v)) (by decide +kernel) rfl ?_
  refine M.callVi (as := [.int x]) (st := []) (nx := 5) okX4_isCell lkX4_86 (m_isCell hgeo hms x) (by decide +kernel) (by decide) rfl (Nat.le_of_ble_eq_true rfl) rfl (by decide) ?_
  refine M.if_ne (off := 7) (tgt := 12) (nx := 8) (by decide +kernel) (fun z5 => ?_) (fun z5 => ?_)
  · obtain ⟨k, hk, rfl⟩ : ∃ k, k < r * c ∧ x = nI k := by
      rcases hcs with ⟨e, _⟩ | ⟨_, h⟩
      · exact absurd e z5
      · exact h
    obtain ⟨a, ha, hka⟩ := mod_sur (h := h) hgeo.2.2.2.1 hk
    refine M.blk (is := [(.iload_n 2, 2, 0, 0), (.iconst 0, 0, 0, 0), (.iconst 2, 0, 0, 2)]) (pc1 := 15) (lo1 := [(0, .ref 0), (1, .int (nI k)), (2, .int y)]) (st1 := [.int 2, .int 0, .int y]) (w1 := (WM MA MS Mh v)) (by decide +kernel) rfl ?_
    refine M.callSi (as := [.int y, .int 0, .int 2]) (st := []) (nx := 18) okX4_within lkX4_36 (s_within (WM MA MS Mh v) y 0 2) (by decide +kernel) (by decide) rfl (Nat.le_of_ble_eq_true rfl) ?_
    refine M.if_ne (off := 14) (tgt := 32) (nx := 21) (by decide +kernel) (fun z18 => ?_) (fun z18 => ?_)
    · refine M.blk (is := [(.aload_n 0, 0, 0, 0), (.iload_n 1, 1, 0, 0), (.iload_n 2, 2, 0, 0)]) (pc1 := 35) (lo1 := [(0, .ref 0), (1, .int (nI k)), (2, .int y)]) (st1 := [.int y, .int (nI k), .ref 0]) (w1 := (WM MA MS Mh v)) (by decide +kernel) rfl ?_
      refine M.callVi (as := [.int (nI k), .int y]) (st := []) (nx := 38) okX4_cellNow lkX4_89 (m_cellNow hgeo hms hk ha hka (yOk_wf.2.1 z18)) (by decide +kernel) (by decide) rfl (Nat.le_of_ble_eq_true rfl) rfl (by decide) ?_
      refine M.blk (is := [(.goto 6, 44, 0, 0)]) (pc1 := 44) (lo1 := [(0, .ref 0), (1, .int (nI k)), (2, .int y)]) (st1 := [.int (cgF r c t k a y)]) (w1 := (WM MA MS Mh v)) (by decide +kernel) rfl ?_
      exact M.reti (nx := 45) (by decide +kernel) ⟨rfl, Or.inr ⟨k, a, hk, ha, hka, rfl, Or.inl ⟨yOk_wf.2.1 z18, rfl⟩⟩⟩
    · refine M.blk (is := [(.iload_n 2, 2, 0, 0), (.bipush 10, 0, 0, 10), (.bipush 13, 0, 0, 13)]) (pc1 := 26) (lo1 := [(0, .ref 0), (1, .int (nI k)), (2, .int y)]) (st1 := [.int 13, .int 10, .int y]) (w1 := (WM MA MS Mh v)) (by decide +kernel) rfl ?_
      refine M.callSi (as := [.int y, .int 10, .int 13]) (st := []) (nx := 29) okX4_within lkX4_36 (s_within (WM MA MS Mh v) y 10 13) (by decide +kernel) (by decide) rfl (Nat.le_of_ble_eq_true rfl) ?_
      refine M.if_eq (off := 12) (tgt := 41) (nx := 32) (by decide +kernel) (fun z29 => ?_) (fun z29 => ?_)
      · refine M.blk (is := [(.sipush (-1002), 0, 0, (-1002))]) (pc1 := 44) (lo1 := [(0, .ref 0), (1, .int (nI k)), (2, .int y)]) (st1 := [.int (-1002)]) (w1 := (WM MA MS Mh v)) (by decide +kernel) rfl ?_
        exact M.reti (nx := 45) (by decide +kernel) ⟨rfl, Or.inr ⟨k, a, hk, ha, hka, rfl, Or.inr ⟨yOk_wf.1 z18 z29, rfl⟩⟩⟩
      · refine M.blk (is := [(.aload_n 0, 0, 0, 0), (.iload_n 1, 1, 0, 0), (.iload_n 2, 2, 0, 0)]) (pc1 := 35) (lo1 := [(0, .ref 0), (1, .int (nI k)), (2, .int y)]) (st1 := [.int y, .int (nI k), .ref 0]) (w1 := (WM MA MS Mh v)) (by decide +kernel) rfl ?_
        refine M.callVi (as := [.int (nI k), .int y]) (st := []) (nx := 38) okX4_cellNow lkX4_89 (m_cellNow hgeo hms hk ha hka (yOk_wf.2.2 z29)) (by decide +kernel) (by decide) rfl (Nat.le_of_ble_eq_true rfl) rfl (by decide) ?_
        refine M.blk (is := [(.goto 6, 44, 0, 0)]) (pc1 := 44) (lo1 := [(0, .ref 0), (1, .int (nI k)), (2, .int y)]) (st1 := [.int (cgF r c t k a y)]) (w1 := (WM MA MS Mh v)) (by decide +kernel) rfl ?_
        exact M.reti (nx := 45) (by decide +kernel) ⟨rfl, Or.inr ⟨k, a, hk, ha, hka, rfl, Or.inl ⟨yOk_wf.2.2 z29, rfl⟩⟩⟩
  · refine M.blk (is := [(.sipush (-1001), 0, 0, (-1001))]) (pc1 := 11) (lo1 := [(0, .ref 0), (1, .int x), (2, .int y)]) (st1 := [.int (-1001)]) (w1 := (WM MA MS Mh v)) (by decide +kernel) rfl ?_
    exact M.reti (nx := 12) (by decide +kernel) ⟨rfl, Or.inl ⟨by rcases hcs with ⟨_, h⟩ | ⟨e, _⟩; exact h; exact absurd (z5.symm.trans e) (by decide), rfl⟩⟩
theorem m_at {r c f h t : Nat} (hgeo : GeoOk r c f h t) (hms : MSok r c f h t MS) (x : Int32) : CC 2 mX4_at 0 0 [.ref 0, .int x] (WM MA MS Mh v) (fun r0 w1 => w1 = (WM MA MS Mh v) ∧ (((∀ k, k < r * c → ¬ x = nI k) ∧ r0 = some (.int (-1001))) ∨ (∃ k, k < r * c ∧ x = nI k ∧ r0 = some (.int (nI ((f * k + h) % (r * c))))))) := by
  have h25 : r * c ≤ 25 := Nat.mul_le_mul hgeo.1.2 hgeo.2.1.2
  have h9a : 9 ≤ r * c := Nat.mul_le_mul hgeo.1.1 hgeo.2.1.1
  refine CC.of okX4_at.1 (Nat.le_of_ble_eq_true rfl) (fun g M => ?_)
  have hcs := wf_sl x (sl := r * c) (by omega)
  show g 0 0 0 [(0, .ref 0), (1, .int x)] [] (WM MA MS Mh v)
  refine M.blk (is := [(.aload_n 0, 0, 0, 0), (.iload_n 1, 1, 0, 0)]) (pc1 := 2) (lo1 := [(0, .ref 0), (1, .int x)]) (st1 := [.int x, .ref 0]) (w1 := (WM MA MS Mh v)) (by decide +kernel) rfl ?_
  refine M.callVi (as := [.int x]) (st := []) (nx := 5) okX4_isCell lkX4_86 (m_isCell hgeo hms x) (by decide +kernel) (by decide) rfl (Nat.le_of_ble_eq_true rfl) rfl (by decide) ?_
  refine M.if_eq (off := 11) (tgt := 16) (nx := 8) (by decide +kernel) (fun z5 => ?_) (fun z5 => ?_)
  · refine M.blk (is := [(.sipush (-1001), 0, 0, (-1001))]) (pc1 := 19) (lo1 := [(0, .ref 0), (1, .int x)]) (st1 := [.int (-1001)]) (w1 := (WM MA MS Mh v)) (by decide +kernel) rfl ?_
    exact M.reti (nx := 20) (by decide +kernel) ⟨rfl, Or.inl ⟨by rcases hcs with ⟨_, h⟩ | ⟨e, _⟩; exact h; exact absurd (z5.symm.trans e) (by decide), rfl⟩⟩
  · obtain ⟨k, hk, rfl⟩ : ∃ k, k < r * c ∧ x = nI k := by
      rcases hcs with ⟨e, _⟩ | ⟨_, h⟩
      · exact absurd e z5
      · exact h
    refine M.blk (is := [(.aload_n 0, 0, 0, 0), (.iload_n 1, 1, 0, 0)]) (pc1 := 10) (lo1 := [(0, .ref 0), (1, .int (nI k))]) (st1 := [.int (nI k), .ref 0]) (w1 := (WM MA MS Mh v)) (by decide +kernel) rfl ?_
    refine M.callVi (as := [.int (nI k)]) (st := []) (nx := 13) okX4_cellAt lkX4_70 (m_cellAt hgeo hms (a := k) (by omega)) (by decide +kernel) (by decide) rfl (Nat.le_of_ble_eq_true rfl) rfl (by decide) ?_
    refine M.blk (is := [(.goto 6, 19, 0, 0)]) (pc1 := 19) (lo1 := [(0, .ref 0), (1, .int (nI k))]) (st1 := [.int (nI ((f * k + h) % (r * c)))]) (w1 := (WM MA MS Mh v)) (by decide +kernel) rfl ?_
    exact M.reti (nx := 20) (by decide +kernel) ⟨rfl, Or.inr ⟨k, hk, rfl, rfl⟩⟩
theorem m_patternOf {r c f h t : Nat} (hgeo : GeoOk r c f h t) (hms : MSok r c f h t MS) {k : Nat} (hk : k < r * c) : CC 2 mX4_patternOf 0 0 [.ref 0, .int (nI k)] (WM MA MS Mh v) (Rt (nI (patN r c (MS 9) k)) (WM MA MS Mh v)) := by
  have h25 : r * c ≤ 25 := Nat.mul_le_mul hgeo.1.2 hgeo.2.1.2
  have h9a : 9 ≤ r * c := Nat.mul_le_mul hgeo.1.1 hgeo.2.1.1
  refine CC.of okX4_patternOf.1 (Nat.le_of_ble_eq_true rfl) (fun g M => ?_)
  show g 0 0 0 [(0, .ref 0), (1, .int (nI k))] [] (WM MA MS Mh v)
  refine M.blk (is := [(.iconst 0, 0, 0, 0), (.istore_n 2, 2, 0, 0), (.iconst 0, 0, 0, 0), (.istore_n 3, 3, 0, 0), (.iload_n 3, 3, 0, 0), (.iconst 4, 0, 0, 4)]) (pc1 := 6) (lo1 := [(3, .int 0), (2, .int 0), (0, .ref 0), (1, .int (nI k))]) (st1 := [.int 4, .int 0]) (w1 := (WM MA MS Mh v)) (by decide +kernel) rfl ?_
  refine M.icmp_ge (off := 41) (tgt := 47) (nx := 9) (by decide +kernel) (fun h => absurd h (by decide)) (fun _ => ?_)
  refine M.blk (is := [(.aload_n 0, 0, 0, 0), (.iload_n 1, 1, 0, 0), (.iload_n 3, 3, 0, 0)]) (pc1 := 12) (lo1 := [(3, .int 0), (2, .int 0), (0, .ref 0), (1, .int (nI k))]) (st1 := [.int 0, .int (nI k), .ref 0]) (w1 := (WM MA MS Mh v)) (by decide +kernel) rfl ?_
  refine M.callVi (as := [.int (nI k), .int 0]) (st := []) (nx := 15) okX4_beside lkX4_83 (m_beside hgeo hms hk (d := 0) (by decide)) (by decide +kernel) (by decide) rfl (Nat.le_of_ble_eq_true rfl) rfl (by decide) ?_
  refine M.blk (is := [(.istore 4, 4, 0, 0), (.iload_n 2, 2, 0, 0), (.iload 4, 4, 0, 0), (.iconst (-1), 0, 0, (-1))]) (pc1 := 21) (lo1 := [(4, .int (oI (nbO r c k 0))), (3, .int 0), (2, .int 0), (0, .ref 0), (1, .int (nI k))]) (st1 := [.int (-1), .int (oI (nbO r c k 0)), .int 0]) (w1 := (WM MA MS Mh v)) (by decide +kernel) rfl ?_
  have j21 : ∀ b21 : Int32, b21 = (if ¬ oI (nbO r c k 0) = (-1) then ((((MS 9) >>> ((oI (nbO r c k 0)) &&& 31)) &&& 1) <<< ((0 : Int32) &&& 31) : Int32) else 0) → g 0 0 39 [(4, .int (oI (nbO r c k 0))), (3, .int 0), (2, .int 0), (0, .ref 0), (1, .int (nI k))] [.int b21, .int 0] (WM MA MS Mh v) := by
    intro b21 hb21
    refine M.blk (is := [(.ior, 0, 0, 0), (.istore_n 2, 2, 0, 0), (.iinc 3 1, 3, 0, 1), (.goto (-40), 4, 0, 0), (.iload_n 3, 3, 0, 0), (.iconst 4, 0, 0, 4)]) (pc1 := 6) (lo1 := [(3, .int 1), (2, .int (0 ||| b21)), (4, .int (oI (nbO r c k 0))), (0, .ref 0), (1, .int (nI k))]) (st1 := [.int 4, .int 1]) (w1 := (WM MA MS Mh v)) (by decide +kernel) rfl ?_
    refine M.icmp_ge (off := 41) (tgt := 47) (nx := 9) (by decide +kernel) (fun h => absurd h (by decide)) (fun _ => ?_)
    refine M.blk (is := [(.aload_n 0, 0, 0, 0), (.iload_n 1, 1, 0, 0), (.iload_n 3, 3, 0, 0)]) (pc1 := 12) (lo1 := [(3, .int 1), (2, .int (0 ||| b21)), (4, .int (oI (nbO r c k 0))), (0, .ref 0), (1, .int (nI k))]) (st1 := [.int 1, .int (nI k), .ref 0]) (w1 := (WM MA MS Mh v)) (by decide +kernel) rfl ?_
    refine M.callVi (as := [.int (nI k), .int 1]) (st := []) (nx := 15) okX4_beside lkX4_83 (m_beside hgeo hms hk (d := 1) (by decide)) (by decide +kernel) (by decide) rfl (Nat.le_of_ble_eq_true rfl) rfl (by decide) ?_
    refine M.blk (is := [(.istore 4, 4, 0, 0), (.iload_n 2, 2, 0, 0), (.iload 4, 4, 0, 0), (.iconst (-1), 0, 0, (-1))]) (pc1 := 21) (lo1 := [(4, .int (oI (nbO r c k 1))), (3, .int 1), (2, .int (0 ||| b21)), (0, .ref 0), (1, .int (nI k))]) (st1 := [.int (-1), .int (oI (nbO r c k 1)), .int (0 ||| b21)]) (w1 := (WM MA MS Mh v)) (by decide +kernel) rfl ?_
    have j21_ : ∀ b21_ : Int32, b21_ = (if ¬ oI (nbO r c k 1) = (-1) then ((((MS 9) >>> ((oI (nbO r c k 1)) &&& 31)) &&& 1) <<< ((1 : Int32) &&& 31) : Int32) else 0) → g 0 0 39 [(4, .int (oI (nbO r c k 1))), (3, .int 1), (2, .int (0 ||| b21)), (0, .ref 0), (1, .int (nI k))] [.int b21_, .int (0 ||| b21)] (WM MA MS Mh v) := by
      intro b21_ hb21_
      refine M.blk (is := [(.ior, 0, 0, 0), (.istore_n 2, 2, 0, 0), (.iinc 3 1, 3, 0, 1), (.goto (-40), 4, 0, 0), (.iload_n 3, 3, 0, 0), (.iconst 4, 0, 0, 4)]) (pc1 := 6) (lo1 := [(3, .int 2), (2, .int ((0 ||| b21) ||| b21_)), (4, .int (oI (nbO r c k 1))), (0, .ref 0), (1, .int (nI k))]) (st1 := [.int 4, .int 2]) (w1 := (WM MA MS Mh v)) (by decide +kernel) rfl ?_
      refine M.icmp_ge (off := 41) (tgt := 47) (nx := 9) (by decide +kernel) (fun h => absurd h (by decide)) (fun _ => ?_)
      refine M.blk (is := [(.aload_n 0, 0, 0, 0), (.iload_n 1, 1, 0, 0), (.iload_n 3, 3, 0, 0)]) (pc1 := 12) (lo1 := [(3, .int 2), (2, .int ((0 ||| b21) ||| b21_)), (4, .int (oI (nbO r c k 1))), (0, .ref 0), (1, .int (nI k))]) (st1 := [.int 2, .int (nI k), .ref 0]) (w1 := (WM MA MS Mh v)) (by decide +kernel) rfl ?_
      refine M.callVi (as := [.int (nI k), .int 2]) (st := []) (nx := 15) okX4_beside lkX4_83 (m_beside hgeo hms hk (d := 2) (by decide)) (by decide +kernel) (by decide) rfl (Nat.le_of_ble_eq_true rfl) rfl (by decide) ?_
      refine M.blk (is := [(.istore 4, 4, 0, 0), (.iload_n 2, 2, 0, 0), (.iload 4, 4, 0, 0), (.iconst (-1), 0, 0, (-1))]) (pc1 := 21) (lo1 := [(4, .int (oI (nbO r c k 2))), (3, .int 2), (2, .int ((0 ||| b21) ||| b21_)), (0, .ref 0), (1, .int (nI k))]) (st1 := [.int (-1), .int (oI (nbO r c k 2)), .int ((0 ||| b21) ||| b21_)]) (w1 := (WM MA MS Mh v)) (by decide +kernel) rfl ?_
      have j21__ : ∀ b21__ : Int32, b21__ = (if ¬ oI (nbO r c k 2) = (-1) then ((((MS 9) >>> ((oI (nbO r c k 2)) &&& 31)) &&& 1) <<< ((2 : Int32) &&& 31) : Int32) else 0) → g 0 0 39 [(4, .int (oI (nbO r c k 2))), (3, .int 2), (2, .int ((0 ||| b21) ||| b21_)), (0, .ref 0), (1, .int (nI k))] [.int b21__, .int ((0 ||| b21) ||| b21_)] (WM MA MS Mh v) := by
        intro b21__ hb21__
        refine M.blk (is := [(.ior, 0, 0, 0), (.istore_n 2, 2, 0, 0), (.iinc 3 1, 3, 0, 1), (.goto (-40), 4, 0, 0), (.iload_n 3, 3, 0, 0), (.iconst 4, 0, 0, 4)]) (pc1 := 6) (lo1 := [(3, .int 3), (2, .int (((0 ||| b21) ||| b21_) ||| b21__)), (4, .int (oI (nbO r c k 2))), (0, .ref 0), (1, .int (nI k))]) (st1 := [.int 4, .int 3]) (w1 := (WM MA MS Mh v)) (by decide +kernel) rfl ?_
        refine M.icmp_ge (off := 41) (tgt := 47) (nx := 9) (by decide +kernel) (fun h => absurd h (by decide)) (fun _ => ?_)
        refine M.blk (is := [(.aload_n 0, 0, 0, 0), (.iload_n 1, 1, 0, 0), (.iload_n 3, 3, 0, 0)]) (pc1 := 12) (lo1 := [(3, .int 3), (2, .int (((0 ||| b21) ||| b21_) ||| b21__)), (4, .int (oI (nbO r c k 2))), (0, .ref 0), (1, .int (nI k))]) (st1 := [.int 3, .int (nI k), .ref 0]) (w1 := (WM MA MS Mh v)) (by decide +kernel) rfl ?_
        refine M.callVi (as := [.int (nI k), .int 3]) (st := []) (nx := 15) okX4_beside lkX4_83 (m_beside hgeo hms hk (d := 3) (by decide)) (by decide +kernel) (by decide) rfl (Nat.le_of_ble_eq_true rfl) rfl (by decide) ?_
        refine M.blk (is := [(.istore 4, 4, 0, 0), (.iload_n 2, 2, 0, 0), (.iload 4, 4, 0, 0), (.iconst (-1), 0, 0, (-1))]) (pc1 := 21) (lo1 := [(4, .int (oI (nbO r c k 3))), (3, .int 3), (2, .int (((0 ||| b21) ||| b21_) ||| b21__)), (0, .ref 0), (1, .int (nI k))]) (st1 := [.int (-1), .int (oI (nbO r c k 3)), .int (((0 ||| b21) ||| b21_) ||| b21__)]) (w1 := (WM MA MS Mh v)) (by decide +kernel) rfl ?_
        have j21___ : ∀ b21___ : Int32, b21___ = (if ¬ oI (nbO r c k 3) = (-1) then ((((MS 9) >>> ((oI (nbO r c k 3)) &&& 31)) &&& 1) <<< ((3 : Int32) &&& 31) : Int32) else 0) → g 0 0 39 [(4, .int (oI (nbO r c k 3))), (3, .int 3), (2, .int (((0 ||| b21) ||| b21_) ||| b21__)), (0, .ref 0), (1, .int (nI k))] [.int b21___, .int (((0 ||| b21) ||| b21_) ||| b21__)] (WM MA MS Mh v) := by
          intro b21___ hb21___
          refine M.blk (is := [(.ior, 0, 0, 0), (.istore_n 2, 2, 0, 0), (.iinc 3 1, 3, 0, 1), (.goto (-40), 4, 0, 0), (.iload_n 3, 3, 0, 0), (.iconst 4, 0, 0, 4)]) (pc1 := 6) (lo1 := [(3, .int 4), (2, .int ((((0 ||| b21) ||| b21_) ||| b21__) ||| b21___)), (4, .int (oI (nbO r c k 3))), (0, .ref 0), (1, .int (nI k))]) (st1 := [.int 4, .int 4]) (w1 := (WM MA MS Mh v)) (by decide +kernel) rfl ?_
          refine M.icmp_ge (off := 41) (tgt := 47) (nx := 9) (by decide +kernel) (fun _ => ?_) (fun h => absurd h (by decide))
          refine M.blk (is := [(.iload_n 2, 2, 0, 0)]) (pc1 := 48) (lo1 := [(3, .int 4), (2, .int ((((0 ||| b21) ||| b21_) ||| b21__) ||| b21___)), (4, .int (oI (nbO r c k 3))), (0, .ref 0), (1, .int (nI k))]) (st1 := [.int ((((0 ||| b21) ||| b21_) ||| b21__) ||| b21___)]) (w1 := (WM MA MS Mh v)) (by decide +kernel) rfl ?_
          exact M.reti (nx := 49) (by decide +kernel) ⟨by rw [pat_1 hk h25 hb21, pat_1 hk h25 hb21_, pat_1 hk h25 hb21__, pat_1 hk h25 hb21___]; exact congrArg (fun z => some (Value.int z)) (pat_or ⟨_, pbN_2 r c (MS 9) k 0⟩ ⟨_, pbN_2 r c (MS 9) k 1⟩ ⟨_, pbN_2 r c (MS 9) k 2⟩ ⟨_, pbN_2 r c (MS 9) k 3⟩), rfl⟩
        refine M.icmp_ne (off := 7) (tgt := 28) (nx := 24) (by decide +kernel) (fun z21 => ?_) (fun z21 => ?_)
        · refine M.blk (is := [(.aload_n 0, 0, 0, 0), (.getfield 92, 4, 9, 0), (.iload 4, 4, 0, 0), (.ishr, 0, 0, 0), (.iconst 1, 0, 0, 1), (.iand, 0, 0, 0), (.iload_n 3, 3, 0, 0), (.ishl, 0, 0, 0)]) (pc1 := 39) (lo1 := [(4, .int (oI (nbO r c k 3))), (3, .int 3), (2, .int (((0 ||| b21) ||| b21_) ||| b21__)), (0, .ref 0), (1, .int (nI k))]) (st1 := [.int ((((MS 9) >>> ((oI (nbO r c k 3)) &&& 31)) &&& 1) <<< ((3 : Int32) &&& 31)), .int (((0 ||| b21) ||| b21_) ||| b21__)]) (w1 := (WM MA MS Mh v)) (by decide +kernel) rfl ?_
          exact j21___ _ (if_pos z21).symm
        · refine M.blk (is := [(.iconst 0, 0, 0, 0), (.goto 14, 39, 0, 0)]) (pc1 := 39) (lo1 := [(4, .int (oI (nbO r c k 3))), (3, .int 3), (2, .int (((0 ||| b21) ||| b21_) ||| b21__)), (0, .ref 0), (1, .int (nI k))]) (st1 := [.int 0, .int (((0 ||| b21) ||| b21_) ||| b21__)]) (w1 := (WM MA MS Mh v)) (by decide +kernel) rfl ?_
          exact j21___ _ (if_neg (fun h => h z21)).symm
      refine M.icmp_ne (off := 7) (tgt := 28) (nx := 24) (by decide +kernel) (fun z21 => ?_) (fun z21 => ?_)
      · refine M.blk (is := [(.aload_n 0, 0, 0, 0), (.getfield 92, 4, 9, 0), (.iload 4, 4, 0, 0), (.ishr, 0, 0, 0), (.iconst 1, 0, 0, 1), (.iand, 0, 0, 0), (.iload_n 3, 3, 0, 0), (.ishl, 0, 0, 0)]) (pc1 := 39) (lo1 := [(4, .int (oI (nbO r c k 2))), (3, .int 2), (2, .int ((0 ||| b21) ||| b21_)), (0, .ref 0), (1, .int (nI k))]) (st1 := [.int ((((MS 9) >>> ((oI (nbO r c k 2)) &&& 31)) &&& 1) <<< ((2 : Int32) &&& 31)), .int ((0 ||| b21) ||| b21_)]) (w1 := (WM MA MS Mh v)) (by decide +kernel) rfl ?_
        exact j21__ _ (if_pos z21).symm
      · refine M.blk (is := [(.iconst 0, 0, 0, 0), (.goto 14, 39, 0, 0)]) (pc1 := 39) (lo1 := [(4, .int (oI (nbO r c k 2))), (3, .int 2), (2, .int ((0 ||| b21) ||| b21_)), (0, .ref 0), (1, .int (nI k))]) (st1 := [.int 0, .int ((0 ||| b21) ||| b21_)]) (w1 := (WM MA MS Mh v)) (by decide +kernel) rfl ?_
        exact j21__ _ (if_neg (fun h => h z21)).symm
    refine M.icmp_ne (off := 7) (tgt := 28) (nx := 24) (by decide +kernel) (fun z21 => ?_) (fun z21 => ?_)
    · refine M.blk (is := [(.aload_n 0, 0, 0, 0), (.getfield 92, 4, 9, 0), (.iload 4, 4, 0, 0), (.ishr, 0, 0, 0), (.iconst 1, 0, 0, 1), (.iand, 0, 0, 0), (.iload_n 3, 3, 0, 0), (.ishl, 0, 0, 0)]) (pc1 := 39) (lo1 := [(4, .int (oI (nbO r c k 1))), (3, .int 1), (2, .int (0 ||| b21)), (0, .ref 0), (1, .int (nI k))]) (st1 := [.int ((((MS 9) >>> ((oI (nbO r c k 1)) &&& 31)) &&& 1) <<< ((1 : Int32) &&& 31)), .int (0 ||| b21)]) (w1 := (WM MA MS Mh v)) (by decide +kernel) rfl ?_
      exact j21_ _ (if_pos z21).symm
    · refine M.blk (is := [(.iconst 0, 0, 0, 0), (.goto 14, 39, 0, 0)]) (pc1 := 39) (lo1 := [(4, .int (oI (nbO r c k 1))), (3, .int 1), (2, .int (0 ||| b21)), (0, .ref 0), (1, .int (nI k))]) (st1 := [.int 0, .int (0 ||| b21)]) (w1 := (WM MA MS Mh v)) (by decide +kernel) rfl ?_
      exact j21_ _ (if_neg (fun h => h z21)).symm
  refine M.icmp_ne (off := 7) (tgt := 28) (nx := 24) (by decide +kernel) (fun z21 => ?_) (fun z21 => ?_)
  · refine M.blk (is := [(.aload_n 0, 0, 0, 0), (.getfield 92, 4, 9, 0), (.iload 4, 4, 0, 0), (.ishr, 0, 0, 0), (.iconst 1, 0, 0, 1), (.iand, 0, 0, 0), (.iload_n 3, 3, 0, 0), (.ishl, 0, 0, 0)]) (pc1 := 39) (lo1 := [(4, .int (oI (nbO r c k 0))), (3, .int 0), (2, .int 0), (0, .ref 0), (1, .int (nI k))]) (st1 := [.int ((((MS 9) >>> ((oI (nbO r c k 0)) &&& 31)) &&& 1) <<< ((0 : Int32) &&& 31)), .int 0]) (w1 := (WM MA MS Mh v)) (by decide +kernel) rfl ?_
    exact j21 _ (if_pos z21).symm
  · refine M.blk (is := [(.iconst 0, 0, 0, 0), (.goto 14, 39, 0, 0)]) (pc1 := 39) (lo1 := [(4, .int (oI (nbO r c k 0))), (3, .int 0), (2, .int 0), (0, .ref 0), (1, .int (nI k))]) (st1 := [.int 0, .int 0]) (w1 := (WM MA MS Mh v)) (by decide +kernel) rfl ?_
    exact j21 _ (if_neg (fun h => h z21)).symm
theorem m_besides {r c f h t : Nat} (hgeo : GeoOk r c f h t) (hms : MSok r c f h t MS) {k : Nat} (hk : k < r * c) : CC 2 mX4_besides 0 0 [.ref 0, .int (nI k)] (WM MA MS Mh v) (Rt (nI (thr r c k)) (WM MA MS Mh v)) := by
  have h25 : r * c ≤ 25 := Nat.mul_le_mul hgeo.1.2 hgeo.2.1.2
  have h9a : 9 ≤ r * c := Nat.mul_le_mul hgeo.1.1 hgeo.2.1.1
  refine CC.of okX4_besides.1 (Nat.le_of_ble_eq_true rfl) (fun g M => ?_)
  show g 0 0 0 [(0, .ref 0), (1, .int (nI k))] [] (WM MA MS Mh v)
  refine M.blk (is := [(.iconst 0, 0, 0, 0), (.istore_n 2, 2, 0, 0), (.iconst 0, 0, 0, 0), (.istore_n 3, 3, 0, 0), (.iload_n 3, 3, 0, 0), (.iconst 4, 0, 0, 4)]) (pc1 := 6) (lo1 := [(3, .int 0), (2, .int 0), (0, .ref 0), (1, .int (nI k))]) (st1 := [.int 4, .int 0]) (w1 := (WM MA MS Mh v)) (by decide +kernel) rfl ?_
  refine M.icmp_ge (off := 29) (tgt := 35) (nx := 9) (by decide +kernel) (fun h => absurd h (by decide)) (fun _ => ?_)
  refine M.blk (is := [(.iload_n 2, 2, 0, 0), (.aload_n 0, 0, 0, 0), (.iload_n 1, 1, 0, 0), (.iload_n 3, 3, 0, 0)]) (pc1 := 13) (lo1 := [(3, .int 0), (2, .int 0), (0, .ref 0), (1, .int (nI k))]) (st1 := [.int 0, .int (nI k), .ref 0, .int 0]) (w1 := (WM MA MS Mh v)) (by decide +kernel) rfl ?_
  refine M.callVi (as := [.int (nI k), .int 0]) (st := [.int 0]) (nx := 16) okX4_beside lkX4_83 (m_beside hgeo hms hk (d := 0) (by decide)) (by decide +kernel) (by decide) rfl (Nat.le_of_ble_eq_true rfl) rfl (by decide) ?_
  refine M.blk (is := [(.iconst (-1), 0, 0, (-1))]) (pc1 := 17) (lo1 := [(3, .int 0), (2, .int 0), (0, .ref 0), (1, .int (nI k))]) (st1 := [.int (-1), .int (oI (nbO r c k 0)), .int 0]) (w1 := (WM MA MS Mh v)) (by decide +kernel) rfl ?_
  have j17 : ∀ b17 : Int32, b17 = (if ¬ oI (nbO r c k 0) = (-1) then ((1 : Int32) <<< ((0 : Int32) &&& 31) : Int32) else 0) → g 0 0 27 [(3, .int 0), (2, .int 0), (0, .ref 0), (1, .int (nI k))] [.int b17, .int 0] (WM MA MS Mh v) := by
    intro b17 hb17
    refine M.blk (is := [(.ior, 0, 0, 0), (.istore_n 2, 2, 0, 0), (.iinc 3 1, 3, 0, 1), (.goto (-28), 4, 0, 0), (.iload_n 3, 3, 0, 0), (.iconst 4, 0, 0, 4)]) (pc1 := 6) (lo1 := [(3, .int 1), (2, .int (0 ||| b17)), (0, .ref 0), (1, .int (nI k))]) (st1 := [.int 4, .int 1]) (w1 := (WM MA MS Mh v)) (by decide +kernel) rfl ?_
    refine M.icmp_ge (off := 29) (tgt := 35) (nx := 9) (by decide +kernel) (fun h => absurd h (by decide)) (fun _ => ?_)
    refine M.blk (is := [(.iload_n 2, 2, 0, 0), (.aload_n 0, 0, 0, 0), (.iload_n 1, 1, 0, 0), (.iload_n 3, 3, 0, 0)]) (pc1 := 13) (lo1 := [(3, .int 1), (2, .int (0 ||| b17)), (0, .ref 0), (1, .int (nI k))]) (st1 := [.int 1, .int (nI k), .ref 0, .int (0 ||| b17)]) (w1 := (WM MA MS Mh v)) (by decide +kernel) rfl ?_
    refine M.callVi (as := [.int (nI k), .int 1]) (st := [.int (0 ||| b17)]) (nx := 16) okX4_beside lkX4_83 (m_beside hgeo hms hk (d := 1) (by decide)) (by decide +kernel) (by decide) rfl (Nat.le_of_ble_eq_true rfl) rfl (by decide) ?_
    refine M.blk (is := [(.iconst (-1), 0, 0, (-1))]) (pc1 := 17) (lo1 := [(3, .int 1), (2, .int (0 ||| b17)), (0, .ref 0), (1, .int (nI k))]) (st1 := [.int (-1), .int (oI (nbO r c k 1)), .int (0 ||| b17)]) (w1 := (WM MA MS Mh v)) (by decide +kernel) rfl ?_
    have j17_ : ∀ b17_ : Int32, b17_ = (if ¬ oI (nbO r c k 1) = (-1) then ((1 : Int32) <<< ((1 : Int32) &&& 31) : Int32) else 0) → g 0 0 27 [(3, .int 1), (2, .int (0 ||| b17)), (0, .ref 0), (1, .int (nI k))] [.int b17_, .int (0 ||| b17)] (WM MA MS Mh v) := by
      intro b17_ hb17_
      refine M.blk (is := [(.ior, 0, 0, 0), (.istore_n 2, 2, 0, 0), (.iinc 3 1, 3, 0, 1), (.goto (-28), 4, 0, 0), (.iload_n 3, 3, 0, 0), (.iconst 4, 0, 0, 4)]) (pc1 := 6) (lo1 := [(3, .int 2), (2, .int ((0 ||| b17) ||| b17_)), (0, .ref 0), (1, .int (nI k))]) (st1 := [.int 4, .int 2]) (w1 := (WM MA MS Mh v)) (by decide +kernel) rfl ?_
      refine M.icmp_ge (off := 29) (tgt := 35) (nx := 9) (by decide +kernel) (fun h => absurd h (by decide)) (fun _ => ?_)
      refine M.blk (is := [(.iload_n 2, 2, 0, 0), (.aload_n 0, 0, 0, 0), (.iload_n 1, 1, 0, 0), (.iload_n 3, 3, 0, 0)]) (pc1 := 13) (lo1 := [(3, .int 2), (2, .int ((0 ||| b17) ||| b17_)), (0, .ref 0), (1, .int (nI k))]) (st1 := [.int 2, .int (nI k), .ref 0, .int ((0 ||| b17) ||| b17_)]) (w1 := (WM MA MS Mh v)) (by decide +kernel) rfl ?_
      refine M.callVi (as := [.int (nI k), .int 2]) (st := [.int ((0 ||| b17) ||| b17_)]) (nx := 16) okX4_beside lkX4_83 (m_beside hgeo hms hk (d := 2) (by decide)) (by decide +kernel) (by decide) rfl (Nat.le_of_ble_eq_true rfl) rfl (by decide) ?_
      refine M.blk (is := [(.iconst (-1), 0, 0, (-1))]) (pc1 := 17) (lo1 := [(3, .int 2), (2, .int ((0 ||| b17) ||| b17_)), (0, .ref 0), (1, .int (nI k))]) (st1 := [.int (-1), .int (oI (nbO r c k 2)), .int ((0 ||| b17) ||| b17_)]) (w1 := (WM MA MS Mh v)) (by decide +kernel) rfl ?_
      have j17__ : ∀ b17__ : Int32, b17__ = (if ¬ oI (nbO r c k 2) = (-1) then ((1 : Int32) <<< ((2 : Int32) &&& 31) : Int32) else 0) → g 0 0 27 [(3, .int 2), (2, .int ((0 ||| b17) ||| b17_)), (0, .ref 0), (1, .int (nI k))] [.int b17__, .int ((0 ||| b17) ||| b17_)] (WM MA MS Mh v) := by
        intro b17__ hb17__
        refine M.blk (is := [(.ior, 0, 0, 0), (.istore_n 2, 2, 0, 0), (.iinc 3 1, 3, 0, 1), (.goto (-28), 4, 0, 0), (.iload_n 3, 3, 0, 0), (.iconst 4, 0, 0, 4)]) (pc1 := 6) (lo1 := [(3, .int 3), (2, .int (((0 ||| b17) ||| b17_) ||| b17__)), (0, .ref 0), (1, .int (nI k))]) (st1 := [.int 4, .int 3]) (w1 := (WM MA MS Mh v)) (by decide +kernel) rfl ?_
        refine M.icmp_ge (off := 29) (tgt := 35) (nx := 9) (by decide +kernel) (fun h => absurd h (by decide)) (fun _ => ?_)
        refine M.blk (is := [(.iload_n 2, 2, 0, 0), (.aload_n 0, 0, 0, 0), (.iload_n 1, 1, 0, 0), (.iload_n 3, 3, 0, 0)]) (pc1 := 13) (lo1 := [(3, .int 3), (2, .int (((0 ||| b17) ||| b17_) ||| b17__)), (0, .ref 0), (1, .int (nI k))]) (st1 := [.int 3, .int (nI k), .ref 0, .int (((0 ||| b17) ||| b17_) ||| b17__)]) (w1 := (WM MA MS Mh v)) (by decide +kernel) rfl ?_
        refine M.callVi (as := [.int (nI k), .int 3]) (st := [.int (((0 ||| b17) ||| b17_) ||| b17__)]) (nx := 16) okX4_beside lkX4_83 (m_beside hgeo hms hk (d := 3) (by decide)) (by decide +kernel) (by decide) rfl (Nat.le_of_ble_eq_true rfl) rfl (by decide) ?_
        refine M.blk (is := [(.iconst (-1), 0, 0, (-1))]) (pc1 := 17) (lo1 := [(3, .int 3), (2, .int (((0 ||| b17) ||| b17_) ||| b17__)), (0, .ref 0), (1, .int (nI k))]) (st1 := [.int (-1), .int (oI (nbO r c k 3)), .int (((0 ||| b17) ||| b17_) ||| b17__)]) (w1 := (WM MA MS Mh v)) (by decide +kernel) rfl ?_
        have j17___ : ∀ b17___ : Int32, b17___ = (if ¬ oI (nbO r c k 3) = (-1) then ((1 : Int32) <<< ((3 : Int32) &&& 31) : Int32) else 0) → g 0 0 27 [(3, .int 3), (2, .int (((0 ||| b17) ||| b17_) ||| b17__)), (0, .ref 0), (1, .int (nI k))] [.int b17___, .int (((0 ||| b17) ||| b17_) ||| b17__)] (WM MA MS Mh v) := by
          intro b17___ hb17___
          refine M.blk (is := [(.ior, 0, 0, 0), (.istore_n 2, 2, 0, 0), (.iinc 3 1, 3, 0, 1), (.goto (-28), 4, 0, 0), (.iload_n 3, 3, 0, 0), (.iconst 4, 0, 0, 4)]) (pc1 := 6) (lo1 := [(3, .int 4), (2, .int ((((0 ||| b17) ||| b17_) ||| b17__) ||| b17___)), (0, .ref 0), (1, .int (nI k))]) (st1 := [.int 4, .int 4]) (w1 := (WM MA MS Mh v)) (by decide +kernel) rfl ?_
          refine M.icmp_ge (off := 29) (tgt := 35) (nx := 9) (by decide +kernel) (fun _ => ?_) (fun h => absurd h (by decide))
          refine M.blk (is := [(.iload_n 2, 2, 0, 0)]) (pc1 := 36) (lo1 := [(3, .int 4), (2, .int ((((0 ||| b17) ||| b17_) ||| b17__) ||| b17___)), (0, .ref 0), (1, .int (nI k))]) (st1 := [.int ((((0 ||| b17) ||| b17_) ||| b17__) ||| b17___)]) (w1 := (WM MA MS Mh v)) (by decide +kernel) rfl ?_
          exact M.reti (nx := 37) (by decide +kernel) ⟨by rw [bes_1 (e := 2 ^ 0) hk h25 (by decide) hb17, bes_1 (e := 2 ^ 1) hk h25 (by decide) hb17_, bes_1 (e := 2 ^ 2) hk h25 (by decide) hb17__, bes_1 (e := 2 ^ 3) hk h25 (by decide) hb17___, lay_V]; rfl, rfl⟩
        refine M.icmp_ne (off := 7) (tgt := 24) (nx := 20) (by decide +kernel) (fun z17 => ?_) (fun z17 => ?_)
        · refine M.blk (is := [(.iconst 1, 0, 0, 1), (.iload_n 3, 3, 0, 0), (.ishl, 0, 0, 0)]) (pc1 := 27) (lo1 := [(3, .int 3), (2, .int (((0 ||| b17) ||| b17_) ||| b17__)), (0, .ref 0), (1, .int (nI k))]) (st1 := [.int ((1 : Int32) <<< ((3 : Int32) &&& 31)), .int (((0 ||| b17) ||| b17_) ||| b17__)]) (w1 := (WM MA MS Mh v)) (by decide +kernel) rfl ?_
          exact j17___ _ (if_pos z17).symm
        · refine M.blk (is := [(.iconst 0, 0, 0, 0), (.goto 6, 27, 0, 0)]) (pc1 := 27) (lo1 := [(3, .int 3), (2, .int (((0 ||| b17) ||| b17_) ||| b17__)), (0, .ref 0), (1, .int (nI k))]) (st1 := [.int 0, .int (((0 ||| b17) ||| b17_) ||| b17__)]) (w1 := (WM MA MS Mh v)) (by decide +kernel) rfl ?_
          exact j17___ _ (if_neg (fun h => h z17)).symm
      refine M.icmp_ne (off := 7) (tgt := 24) (nx := 20) (by decide +kernel) (fun z17 => ?_) (fun z17 => ?_)
      · refine M.blk (is := [(.iconst 1, 0, 0, 1), (.iload_n 3, 3, 0, 0), (.ishl, 0, 0, 0)]) (pc1 := 27) (lo1 := [(3, .int 2), (2, .int ((0 ||| b17) ||| b17_)), (0, .ref 0), (1, .int (nI k))]) (st1 := [.int ((1 : Int32) <<< ((2 : Int32) &&& 31)), .int ((0 ||| b17) ||| b17_)]) (w1 := (WM MA MS Mh v)) (by decide +kernel) rfl ?_
        exact j17__ _ (if_pos z17).symm
      · refine M.blk (is := [(.iconst 0, 0, 0, 0), (.goto 6, 27, 0, 0)]) (pc1 := 27) (lo1 := [(3, .int 2), (2, .int ((0 ||| b17) ||| b17_)), (0, .ref 0), (1, .int (nI k))]) (st1 := [.int 0, .int ((0 ||| b17) ||| b17_)]) (w1 := (WM MA MS Mh v)) (by decide +kernel) rfl ?_
        exact j17__ _ (if_neg (fun h => h z17)).symm
    refine M.icmp_ne (off := 7) (tgt := 24) (nx := 20) (by decide +kernel) (fun z17 => ?_) (fun z17 => ?_)
    · refine M.blk (is := [(.iconst 1, 0, 0, 1), (.iload_n 3, 3, 0, 0), (.ishl, 0, 0, 0)]) (pc1 := 27) (lo1 := [(3, .int 1), (2, .int (0 ||| b17)), (0, .ref 0), (1, .int (nI k))]) (st1 := [.int ((1 : Int32) <<< ((1 : Int32) &&& 31)), .int (0 ||| b17)]) (w1 := (WM MA MS Mh v)) (by decide +kernel) rfl ?_
      exact j17_ _ (if_pos z17).symm
    · refine M.blk (is := [(.iconst 0, 0, 0, 0), (.goto 6, 27, 0, 0)]) (pc1 := 27) (lo1 := [(3, .int 1), (2, .int (0 ||| b17)), (0, .ref 0), (1, .int (nI k))]) (st1 := [.int 0, .int (0 ||| b17)]) (w1 := (WM MA MS Mh v)) (by decide +kernel) rfl ?_
      exact j17_ _ (if_neg (fun h => h z17)).symm
  refine M.icmp_ne (off := 7) (tgt := 24) (nx := 20) (by decide +kernel) (fun z17 => ?_) (fun z17 => ?_)
  · refine M.blk (is := [(.iconst 1, 0, 0, 1), (.iload_n 3, 3, 0, 0), (.ishl, 0, 0, 0)]) (pc1 := 27) (lo1 := [(3, .int 0), (2, .int 0), (0, .ref 0), (1, .int (nI k))]) (st1 := [.int ((1 : Int32) <<< ((0 : Int32) &&& 31)), .int 0]) (w1 := (WM MA MS Mh v)) (by decide +kernel) rfl ?_
    exact j17 _ (if_pos z17).symm
  · refine M.blk (is := [(.iconst 0, 0, 0, 0), (.goto 6, 27, 0, 0)]) (pc1 := 27) (lo1 := [(3, .int 0), (2, .int 0), (0, .ref 0), (1, .int (nI k))]) (st1 := [.int 0, .int 0]) (w1 := (WM MA MS Mh v)) (by decide +kernel) rfl ?_
    exact j17 _ (if_neg (fun h => h z17)).symm
theorem wd_ok : ∀ (q : Fin 8) (k : Fin 4), ((nI q.val >>> (nI k.val &&& 31)) <<< ((nI k.val + 1) &&& 31)) ||| (nI q.val &&& (((1 : Int32) <<< (nI k.val &&& 31)) - 1)) = nI (wdB q.val k.val) := by decide +kernel
theorem s_widened (w0 : Wd) {q k : Nat} (hq : q < 8) (hk : k < 4) : CC 0 mX4_widened 0 0 [.int (nI q), .int (nI k)] w0 (Rt (nI (wdB q k)) w0) := by
  refine CC.of okX4_widened.1 (Nat.le_of_ble_eq_true rfl) (fun g M => ?_)
  show g 0 0 0 [(0, .int (nI q)), (1, .int (nI k))] [] w0
  refine M.blk (is := [(.iload_n 0, 0, 0, 0), (.iload_n 1, 1, 0, 0), (.ishr, 0, 0, 0), (.iload_n 1, 1, 0, 0), (.iconst 1, 0, 0, 1), (.iadd, 0, 0, 0), (.ishl, 0, 0, 0), (.iload_n 0, 0, 0, 0), (.iconst 1, 0, 0, 1), (.iload_n 1, 1, 0, 0), (.ishl, 0, 0, 0), (.iconst 1, 0, 0, 1), (.isub, 0, 0, 0), (.iand, 0, 0, 0), (.ior, 0, 0, 0)]) (pc1 := 15) (lo1 := [(0, .int (nI q)), (1, .int (nI k))]) (st1 := [.int ((((nI q) >>> ((nI k) &&& 31)) <<< (((nI k) + 1) &&& 31)) ||| ((nI q) &&& (((1 : Int32) <<< ((nI k) &&& 31)) - 1)))]) (w1 := w0) (by decide +kernel) rfl ?_
  exact M.reti (nx := 16) (by decide +kernel) ⟨congrArg (fun z => some (Value.int z)) (wd_ok ⟨q, hq⟩ ⟨k, hk⟩), rfl⟩
def ptP (κ p : Nat) : Nat := if κ = 2 then wdB (p / 2 % 8) (p / 32) else p / 2
def FS (k κ p : Nat) (MS : Nat → Int32) : Prop := MS 11 = nI k ∧ MS 12 = nI κ ∧ (MS 13 = if κ = 2 then nI (p / 32) else -1) ∧ MS 14 = nI (p / 16 % 2) ∧ MS 15 = nI (ptP κ p) ∧ MS 16 = nI (p % 2)
theorem lf_a : ∀ (a : Fin 16) (th : Fin 16), (nI a.val &&& (nI th.val ^^^ (-1)) = 0) ↔ (a.val &&& th.val = a.val) := by decide +kernel
theorem lf_w : ∀ (q : Fin 8) (k : Fin 4), wdB q.val k.val < 16 := by decide +kernel
theorem lf_b : ∀ (th : Fin 16) (d : Fin 4), (hbF (nI th.val) (nI d.val) = 0) ↔ ¬ (th.val / 2 ^ d.val % 2 = 1) := by decide +kernel
theorem flt_no1 {r c N : Nat} (h : ¬ N / 1000 < r * c) : fltN r c N = false := by unfold fltN; rw [decide_eq_false h]; rfl
theorem flt_no2 {r c N : Nat} (h : ¬ N % 1000 % 300 < ptsN (N % 1000 / 300)) : fltN r c N = false := by unfold fltN; rw [isPt_no h, Bool.and_false]
theorem flt_k {r c N κ : Nat} (hκ : N % 1000 / 300 = κ) (hk : N / 1000 < r * c) (hp : N % 1000 % 300 < ptsN κ) (h2 : ¬ κ = 2) : fltN r c N = decide (N % 1000 % 300 / 2 &&& thr r c (N / 1000) = N % 1000 % 300 / 2) := by
  unfold fltN isPt
  rw [hκ, decide_eq_true hk, decide_eq_true hp, if_neg h2]
  rfl
theorem flt_2 {r c N : Nat} (hκ : N % 1000 / 300 = 2) (hk : N / 1000 < r * c) (hp : N % 1000 % 300 < 128) : fltN r c N = (decide (thr r c (N / 1000) / 2 ^ (N % 1000 % 300 / 32) % 2 = 1) && decide (wdB (N % 1000 % 300 / 2 % 8) (N % 1000 % 300 / 32) &&& thr r c (N / 1000) = wdB (N % 1000 % 300 / 2 % 8) (N % 1000 % 300 / 32))) := by
  unfold fltN isPt
  rw [hκ, decide_eq_true hk, decide_eq_true (show N % 1000 % 300 < ptsN 2 from hp), if_pos rfl]
  rfl
theorem m_layNone : CC 3 mX4_layFault 0 0 [.ref 0, .int (-1)] (WM MA MS Mh v) (Rt 1 (WM MA (upd MS 11 (-1)) Mh v)) := by
  refine CC.of okX4_layFault.1 (Nat.le_of_ble_eq_true rfl) (fun g M => ?_)
  show g 0 0 0 [(0, .ref 0), (1, .int (-1))] [] (WM MA MS Mh v)
  refine M.blk (is := [(.aload_n 0, 0, 0, 0), (.iconst (-1), 0, 0, (-1)), (.putfield 95, 4, 11, 0), (.iload_n 1, 1, 0, 0), (.iconst (-1), 0, 0, (-1))]) (pc1 := 7) (lo1 := [(0, .ref 0), (1, .int (-1))]) (st1 := [.int (-1), .int (-1)]) (w1 := (WM MA (upd MS 11 (-1)) Mh v)) (by decide +kernel) rfl ?_
  refine M.icmp_ne (off := 5) (tgt := 12) (nx := 10) (by decide +kernel) (fun h => absurd h (by decide)) (fun _ => ?_)
  refine M.blk (is := [(.iconst 1, 0, 0, 1)]) (pc1 := 11) (lo1 := [(0, .ref 0), (1, .int (-1))]) (st1 := [.int 1]) (w1 := (WM MA (upd MS 11 (-1)) Mh v)) (by decide +kernel) rfl ?_
  exact M.retz (nx := 12) (by decide +kernel) (by decide) ⟨rfl, rfl⟩
theorem m_layNeg {F : Int32} (hF : F < 0) (h1 : ¬ F = -1) : CC 3 mX4_layFault 0 0 [.ref 0, .int F] (WM MA MS Mh v) (fun r0 w1 => ∃ MT, w1 = WM MA MT Mh v ∧ (∀ i, ¬ (11 ≤ i ∧ i ≤ 16) → MT i = MS i) ∧ r0 = some (.int 0)) := by
  refine CC.of okX4_layFault.1 (Nat.le_of_ble_eq_true rfl) (fun g M => ?_)
  show g 0 0 0 [(0, .ref 0), (1, .int F)] [] (WM MA MS Mh v)
  refine M.blk (is := [(.aload_n 0, 0, 0, 0), (.iconst (-1), 0, 0, (-1)), (.putfield 95, 4, 11, 0), (.iload_n 1, 1, 0, 0), (.iconst (-1), 0, 0, (-1))]) (pc1 := 7) (lo1 := [(0, .ref 0), (1, .int F)]) (st1 := [.int (-1), .int F]) (w1 := (WM MA (upd MS 11 (-1)) Mh v)) (by decide +kernel) rfl ?_
  refine M.icmp_ne (off := 5) (tgt := 12) (nx := 10) (by decide +kernel) (fun z7 => ?_) (fun z7 => by exfalso; exact h1 z7)
  refine M.blk (is := [(.iload_n 1, 1, 0, 0), (.sipush 1000, 0, 0, 1000)]) (pc1 := 16) (lo1 := [(0, .ref 0), (1, .int F)]) (st1 := [.int 1000, .int F]) (w1 := (WM MA (upd MS 11 (-1)) Mh v)) (by decide +kernel) rfl ?_
  refine M.idv (nx := 17) (by decide +kernel) (by decide) ?_
  refine M.blk (is := [(.istore_n 2, 2, 0, 0), (.iload_n 1, 1, 0, 0), (.sipush 1000, 0, 0, 1000)]) (pc1 := 22) (lo1 := [(2, .int (F / 1000)), (0, .ref 0), (1, .int F)]) (st1 := [.int 1000, .int F]) (w1 := (WM MA (upd MS 11 (-1)) Mh v)) (by decide +kernel) rfl ?_
  refine M.irm (nx := 23) (by decide +kernel) (by decide) ?_
  refine M.blk (is := [(.sipush 300, 0, 0, 300)]) (pc1 := 26) (lo1 := [(2, .int (F / 1000)), (0, .ref 0), (1, .int F)]) (st1 := [.int 300, .int (jrem F 1000)]) (w1 := (WM MA (upd MS 11 (-1)) Mh v)) (by decide +kernel) rfl ?_
  refine M.irm (nx := 27) (by decide +kernel) (by decide) ?_
  refine M.blk (is := [(.istore_n 3, 3, 0, 0), (.aload_n 0, 0, 0, 0), (.iload_n 1, 1, 0, 0), (.sipush 1000, 0, 0, 1000)]) (pc1 := 33) (lo1 := [(3, .int (jrem (jrem F 1000) 300)), (2, .int (F / 1000)), (0, .ref 0), (1, .int F)]) (st1 := [.int 1000, .int F, .ref 0]) (w1 := (WM MA (upd MS 11 (-1)) Mh v)) (by decide +kernel) rfl ?_
  refine M.irm (nx := 34) (by decide +kernel) (by decide) ?_
  refine M.blk (is := [(.sipush 300, 0, 0, 300)]) (pc1 := 37) (lo1 := [(3, .int (jrem (jrem F 1000) 300)), (2, .int (F / 1000)), (0, .ref 0), (1, .int F)]) (st1 := [.int 300, .int (jrem F 1000), .ref 0]) (w1 := (WM MA (upd MS 11 (-1)) Mh v)) (by decide +kernel) rfl ?_
  refine M.idv (nx := 38) (by decide +kernel) (by decide) ?_
  refine M.blk (is := [(.putfield 98, 4, 12, 0), (.iload_n 1, 1, 0, 0)]) (pc1 := 42) (lo1 := [(3, .int (jrem (jrem F 1000) 300)), (2, .int (F / 1000)), (0, .ref 0), (1, .int F)]) (st1 := [.int F]) (w1 := (WM MA (upd (upd MS 11 (-1)) 12 ((jrem F 1000) / 300)) Mh v)) (by decide +kernel) rfl ?_
  refine M.if_lt (off := 38) (tgt := 80) (nx := 45) (by decide +kernel) (fun z42 => ?_) (fun z42 => by exfalso; exact z42 hF)
  refine M.blk (is := [(.iconst 0, 0, 0, 0)]) (pc1 := 81) (lo1 := [(3, .int (jrem (jrem F 1000) 300)), (2, .int (F / 1000)), (0, .ref 0), (1, .int F)]) (st1 := [.int 0]) (w1 := (WM MA (upd (upd MS 11 (-1)) 12 ((jrem F 1000) / 300)) Mh v)) (by decide +kernel) rfl ?_
  exact M.retz (nx := 82) (by decide +kernel) (by decide) ⟨_, rfl, fun i hi => by rw [pk_un (by omega), pk_un (by omega)], rfl⟩
theorem m_layNum0 {r c f h t : Nat} (hgeo : GeoOk r c f h t) (hms : MSok r c f h t MS) {N : Nat} (hN : N < 2147483648) (hκ : N % 1000 / 300 = 0) : CC 3 mX4_layFault 0 0 [.ref 0, .int (nI N)] (WM MA MS Mh v) (fun r0 w1 => ∃ MT, w1 = WM MA MT Mh v ∧ (∀ i, ¬ (11 ≤ i ∧ i ≤ 16) → MT i = MS i) ∧ r0 = some (.int (b2i (fltN r c N))) ∧ (fltN r c N = true → FS (N / 1000) (N % 1000 / 300) (N % 1000 % 300) MT)) := by
  have h25 : r * c ≤ 25 := Nat.mul_le_mul hgeo.1.2 hgeo.2.1.2
  have h9a : 9 ≤ r * c := Nat.mul_le_mul hgeo.1.1 hgeo.2.1.1
  refine CC.of okX4_layFault.1 (Nat.le_of_ble_eq_true rfl) (fun g M => ?_)
  have hcs := wf_sl (nI (N / 1000)) (sl := r * c) (by omega)
  show g 0 0 0 [(0, .ref 0), (1, .int (nI N))] [] (WM MA MS Mh v)
  refine M.blk (is := [(.aload_n 0, 0, 0, 0), (.iconst (-1), 0, 0, (-1)), (.putfield 95, 4, 11, 0), (.iload_n 1, 1, 0, 0), (.iconst (-1), 0, 0, (-1))]) (pc1 := 7) (lo1 := [(0, .ref 0), (1, .int (nI N))]) (st1 := [.int (-1), .int (nI N)]) (w1 := (WM MA (upd MS 11 (-1)) Mh v)) (by decide +kernel) rfl ?_
  refine M.icmp_ne (off := 5) (tgt := 12) (nx := 10) (by decide +kernel) (fun z7 => ?_) (fun z7 => by exfalso; exact nI_n1 hN z7)
  refine M.blk (is := [(.iload_n 1, 1, 0, 0), (.sipush 1000, 0, 0, 1000)]) (pc1 := 16) (lo1 := [(0, .ref 0), (1, .int (nI N))]) (st1 := [.int 1000, .int (nI N)]) (w1 := (WM MA (upd MS 11 (-1)) Mh v)) (by decide +kernel) rfl ?_
  refine M.idv (nx := 17) (by decide +kernel) (by decide) ?_
  rw [show nI N / 1000 = nI (N / 1000) from pk_div (a := N) (d := 1000) hN (by decide) (by decide)]
  refine M.blk (is := [(.istore_n 2, 2, 0, 0), (.iload_n 1, 1, 0, 0), (.sipush 1000, 0, 0, 1000)]) (pc1 := 22) (lo1 := [(2, .int (nI (N / 1000))), (0, .ref 0), (1, .int (nI N))]) (st1 := [.int 1000, .int (nI N)]) (w1 := (WM MA (upd MS 11 (-1)) Mh v)) (by decide +kernel) rfl ?_
  refine M.irm (nx := 23) (by decide +kernel) (by decide) ?_
  rw [show jrem (nI N) 1000 = nI (N % 1000) from hf_rem (d := 1000) hN (by decide) (by decide)]
  refine M.blk (is := [(.sipush 300, 0, 0, 300)]) (pc1 := 26) (lo1 := [(2, .int (nI (N / 1000))), (0, .ref 0), (1, .int (nI N))]) (st1 := [.int 300, .int (nI (N % 1000))]) (w1 := (WM MA (upd MS 11 (-1)) Mh v)) (by decide +kernel) rfl ?_
  refine M.irm (nx := 27) (by decide +kernel) (by decide) ?_
  rw [show jrem (nI (N % 1000)) 300 = nI (N % 1000 % 300) from hf_rem (d := 300) (by omega) (by decide) (by decide)]
  refine M.blk (is := [(.istore_n 3, 3, 0, 0), (.aload_n 0, 0, 0, 0), (.iload_n 1, 1, 0, 0), (.sipush 1000, 0, 0, 1000)]) (pc1 := 33) (lo1 := [(3, .int (nI (N % 1000 % 300))), (2, .int (nI (N / 1000))), (0, .ref 0), (1, .int (nI N))]) (st1 := [.int 1000, .int (nI N), .ref 0]) (w1 := (WM MA (upd MS 11 (-1)) Mh v)) (by decide +kernel) rfl ?_
  refine M.irm (nx := 34) (by decide +kernel) (by decide) ?_
  rw [show jrem (nI N) 1000 = nI (N % 1000) from hf_rem (d := 1000) hN (by decide) (by decide)]
  refine M.blk (is := [(.sipush 300, 0, 0, 300)]) (pc1 := 37) (lo1 := [(3, .int (nI (N % 1000 % 300))), (2, .int (nI (N / 1000))), (0, .ref 0), (1, .int (nI N))]) (st1 := [.int 300, .int (nI (N % 1000)), .ref 0]) (w1 := (WM MA (upd MS 11 (-1)) Mh v)) (by decide +kernel) rfl ?_
  refine M.idv (nx := 38) (by decide +kernel) (by decide) ?_
  rw [show nI (N % 1000) / 300 = 0 from (pk_div (a := N % 1000) (d := 300) (by omega) (by decide) (by decide)).trans (congrArg nI hκ)]
  refine M.blk (is := [(.putfield 98, 4, 12, 0), (.iload_n 1, 1, 0, 0)]) (pc1 := 42) (lo1 := [(3, .int (nI (N % 1000 % 300))), (2, .int (nI (N / 1000))), (0, .ref 0), (1, .int (nI N))]) (st1 := [.int (nI N)]) (w1 := (WM MA (upd (upd MS 11 (-1)) 12 0) Mh v)) (by decide +kernel) rfl ?_
  refine M.if_lt (off := 38) (tgt := 80) (nx := 45) (by decide +kernel) (fun z42 => by exfalso; exact nI_pos (by omega) z42) (fun z42 => ?_)
  refine M.blk (is := [(.aload_n 0, 0, 0, 0), (.iload_n 2, 2, 0, 0)]) (pc1 := 47) (lo1 := [(3, .int (nI (N % 1000 % 300))), (2, .int (nI (N / 1000))), (0, .ref 0), (1, .int (nI N))]) (st1 := [.int (nI (N / 1000)), .ref 0]) (w1 := (WM MA (upd (upd MS 11 (-1)) 12 0) Mh v)) (by decide +kernel) rfl ?_
  refine M.callVi (as := [.int (nI (N / 1000))]) (st := []) (nx := 50) okX4_isCell lkX4_86 (m_isCell (MS := (upd (upd MS 11 (-1)) 12 0)) hgeo hms (nI (N / 1000))) (by decide +kernel) (by decide) rfl (Nat.le_of_ble_eq_true rfl) rfl (by decide) ?_
  refine M.if_eq (off := 30) (tgt := 80) (nx := 53) (by decide +kernel) (fun z50 => ?_) (fun z50 => ?_)
  · refine M.blk (is := [(.iconst 0, 0, 0, 0)]) (pc1 := 81) (lo1 := [(3, .int (nI (N % 1000 % 300))), (2, .int (nI (N / 1000))), (0, .ref 0), (1, .int (nI N))]) (st1 := [.int 0]) (w1 := (WM MA (upd (upd MS 11 (-1)) 12 0) Mh v)) (by decide +kernel) rfl ?_
    exact M.retz (nx := 82) (by decide +kernel) (by decide) ⟨_, rfl, fun i hi => by rw [pk_un (by omega), pk_un (by omega)], by rw [flt_no1 (fun h => by rcases hcs with ⟨_, e⟩ | ⟨e, _⟩; exact e _ h rfl; exact absurd (z50.symm.trans e) (by decide))]; rfl, fun h => by rw [flt_no1 (fun h => by rcases hcs with ⟨_, e⟩ | ⟨e, _⟩; exact e _ h rfl; exact absurd (z50.symm.trans e) (by decide))] at h; cases h⟩
  · have hk : N / 1000 < r * c := by
      rcases hcs with ⟨e, _⟩ | ⟨_, k, hk, e⟩
      · exact absurd e z50
      · rw [nI_inj (by omega) (by omega) e]; exact hk
    refine M.blk (is := [(.aload_n 0, 0, 0, 0), (.getfield 98, 4, 12, 0), (.iconst 2, 0, 0, 2)]) (pc1 := 58) (lo1 := [(3, .int (nI (N % 1000 % 300))), (2, .int (nI (N / 1000))), (0, .ref 0), (1, .int (nI N))]) (st1 := [.int 2, .int 0]) (w1 := (WM MA (upd (upd MS 11 (-1)) 12 0) Mh v)) (by decide +kernel) rfl ?_
    refine M.icmp_gt (off := 22) (tgt := 80) (nx := 61) (by decide +kernel) (fun h => absurd h (by decide)) (fun _ => ?_)
    refine M.blk (is := [(.iload_n 3, 3, 0, 0), (.aload_n 0, 0, 0, 0), (.getfield 98, 4, 12, 0), (.iconst 2, 0, 0, 2)]) (pc1 := 67) (lo1 := [(3, .int (nI (N % 1000 % 300))), (2, .int (nI (N / 1000))), (0, .ref 0), (1, .int (nI N))]) (st1 := [.int 2, .int 0, .int (nI (N % 1000 % 300))]) (w1 := (WM MA (upd (upd MS 11 (-1)) 12 0) Mh v)) (by decide +kernel) rfl ?_
    refine M.icmp_ne (off := 8) (tgt := 75) (nx := 70) (by decide +kernel) (fun _ => ?_) (fun h => absurd h (by decide))
    refine M.blk (is := [(.bipush 31, 0, 0, 31)]) (pc1 := 77) (lo1 := [(3, .int (nI (N % 1000 % 300))), (2, .int (nI (N / 1000))), (0, .ref 0), (1, .int (nI N))]) (st1 := [.int 31, .int (nI (N % 1000 % 300))]) (w1 := (WM MA (upd (upd MS 11 (-1)) 12 0) Mh v)) (by decide +kernel) rfl ?_
    refine M.icmp_le (off := 5) (tgt := 82) (nx := 80) (by decide +kernel) (fun z77 => ?_) (fun z77 => ?_)
    · have hp : N % 1000 % 300 < 32 := (show N % 1000 % 300 ≤ 31 from (nI_leI (by omega) (by decide)).mp z77) |> Nat.lt_succ_of_le
      refine M.blk (is := [(.aload_n 0, 0, 0, 0), (.aload_n 0, 0, 0, 0), (.getfield 98, 4, 12, 0), (.iconst 2, 0, 0, 2)]) (pc1 := 88) (lo1 := [(3, .int (nI (N % 1000 % 300))), (2, .int (nI (N / 1000))), (0, .ref 0), (1, .int (nI N))]) (st1 := [.int 2, .int 0, .ref 0]) (w1 := (WM MA (upd (upd MS 11 (-1)) 12 0) Mh v)) (by decide +kernel) rfl ?_
      refine M.icmp_ne (off := 10) (tgt := 98) (nx := 91) (by decide +kernel) (fun _ => ?_) (fun h => absurd h (by decide))
      refine M.blk (is := [(.iconst (-1), 0, 0, (-1)), (.putfield 101, 4, 13, 0), (.aload_n 0, 0, 0, 0), (.iload_n 3, 3, 0, 0), (.bipush 16, 0, 0, 16)]) (pc1 := 106) (lo1 := [(3, .int (nI (N % 1000 % 300))), (2, .int (nI (N / 1000))), (0, .ref 0), (1, .int (nI N))]) (st1 := [.int 16, .int (nI (N % 1000 % 300)), .ref 0]) (w1 := (WM MA (upd (upd (upd MS 11 (-1)) 12 0) 13 (-1)) Mh v)) (by decide +kernel) rfl ?_
      refine M.idv (nx := 107) (by decide +kernel) (by decide) ?_
      rw [show nI (N % 1000 % 300) / 16 = nI (N % 1000 % 300 / 16) from pk_div (a := N % 1000 % 300) (d := 16) (by omega) (by decide) (by decide)]
      refine M.blk (is := [(.iconst 2, 0, 0, 2)]) (pc1 := 108) (lo1 := [(3, .int (nI (N % 1000 % 300))), (2, .int (nI (N / 1000))), (0, .ref 0), (1, .int (nI N))]) (st1 := [.int 2, .int (nI (N % 1000 % 300 / 16)), .ref 0]) (w1 := (WM MA (upd (upd (upd MS 11 (-1)) 12 0) 13 (-1)) Mh v)) (by decide +kernel) rfl ?_
      refine M.irm (nx := 109) (by decide +kernel) (by decide) ?_
      rw [show jrem (nI (N % 1000 % 300 / 16)) 2 = nI (N % 1000 % 300 / 16 % 2) from hf_rem (d := 2) (by omega) (by decide) (by decide)]
      refine M.blk (is := [(.putfield 104, 4, 14, 0), (.aload_n 0, 0, 0, 0), (.aload_n 0, 0, 0, 0), (.getfield 98, 4, 12, 0), (.iconst 2, 0, 0, 2)]) (pc1 := 118) (lo1 := [(3, .int (nI (N % 1000 % 300))), (2, .int (nI (N / 1000))), (0, .ref 0), (1, .int (nI N))]) (st1 := [.int 2, .int 0, .ref 0]) (w1 := (WM MA (upd (upd (upd (upd MS 11 (-1)) 12 0) 13 (-1)) 14 (nI (N % 1000 % 300 / 16 % 2))) Mh v)) (by decide +kernel) rfl ?_
      refine M.icmp_ne (off := 19) (tgt := 137) (nx := 121) (by decide +kernel) (fun _ => ?_) (fun h => absurd h (by decide))
      refine M.blk (is := [(.iload_n 3, 3, 0, 0), (.iconst 2, 0, 0, 2)]) (pc1 := 139) (lo1 := [(3, .int (nI (N % 1000 % 300))), (2, .int (nI (N / 1000))), (0, .ref 0), (1, .int (nI N))]) (st1 := [.int 2, .int (nI (N % 1000 % 300)), .ref 0]) (w1 := (WM MA (upd (upd (upd (upd MS 11 (-1)) 12 0) 13 (-1)) 14 (nI (N % 1000 % 300 / 16 % 2))) Mh v)) (by decide +kernel) rfl ?_
      refine M.idv (nx := 140) (by decide +kernel) (by decide) ?_
      rw [show nI (N % 1000 % 300) / 2 = nI (N % 1000 % 300 / 2) from pk_div (a := N % 1000 % 300) (d := 2) (by omega) (by decide) (by decide)]
      refine M.blk (is := [(.putfield 110, 4, 15, 0), (.aload_n 0, 0, 0, 0), (.iload_n 3, 3, 0, 0), (.iconst 2, 0, 0, 2)]) (pc1 := 146) (lo1 := [(3, .int (nI (N % 1000 % 300))), (2, .int (nI (N / 1000))), (0, .ref 0), (1, .int (nI N))]) (st1 := [.int 2, .int (nI (N % 1000 % 300)), .ref 0]) (w1 := (WM MA (upd (upd (upd (upd (upd MS 11 (-1)) 12 0) 13 (-1)) 14 (nI (N % 1000 % 300 / 16 % 2))) 15 (nI (N % 1000 % 300 / 2))) Mh v)) (by decide +kernel) rfl ?_
      refine M.irm (nx := 147) (by decide +kernel) (by decide) ?_
      rw [show jrem (nI (N % 1000 % 300)) 2 = nI (N % 1000 % 300 % 2) from hf_rem (d := 2) (by omega) (by decide) (by decide)]
      refine M.blk (is := [(.putfield 113, 4, 16, 0), (.aload_n 0, 0, 0, 0), (.iload_n 2, 2, 0, 0), (.putfield 95, 4, 11, 0), (.aload_n 0, 0, 0, 0), (.getfield 110, 4, 15, 0), (.aload_n 0, 0, 0, 0), (.iload_n 2, 2, 0, 0)]) (pc1 := 161) (lo1 := [(3, .int (nI (N % 1000 % 300))), (2, .int (nI (N / 1000))), (0, .ref 0), (1, .int (nI N))]) (st1 := [.int (nI (N / 1000)), .ref 0, .int (nI (N % 1000 % 300 / 2))]) (w1 := (WM MA (upd (upd (upd (upd (upd (upd MS 12 0) 13 (-1)) 14 (nI (N % 1000 % 300 / 16 % 2))) 15 (nI (N % 1000 % 300 / 2))) 16 (nI (N % 1000 % 300 % 2))) 11 (nI (N / 1000))) Mh v)) (by decide +kernel) rfl ?_
      refine M.callVi (as := [.int (nI (N / 1000))]) (st := [.int (nI (N % 1000 % 300 / 2))]) (nx := 164) okX4_besides lkX4_116 (m_besides (MS := (upd (upd (upd (upd (upd (upd MS 12 0) 13 (-1)) 14 (nI (N % 1000 % 300 / 16 % 2))) 15 (nI (N % 1000 % 300 / 2))) 16 (nI (N % 1000 % 300 % 2))) 11 (nI (N / 1000)))) hgeo hms hk) (by decide +kernel) (by decide) rfl (Nat.le_of_ble_eq_true rfl) rfl (by decide) ?_
      refine M.blk (is := [(.iconst (-1), 0, 0, (-1)), (.ixor, 0, 0, 0), (.iand, 0, 0, 0)]) (pc1 := 167) (lo1 := [(3, .int (nI (N % 1000 % 300))), (2, .int (nI (N / 1000))), (0, .ref 0), (1, .int (nI N))]) (st1 := [.int ((nI (N % 1000 % 300 / 2)) &&& ((nI (thr r c (N / 1000))) ^^^ (-1)))]) (w1 := (WM MA (upd (upd (upd (upd (upd (upd MS 12 0) 13 (-1)) 14 (nI (N % 1000 % 300 / 16 % 2))) 15 (nI (N % 1000 % 300 / 2))) 16 (nI (N % 1000 % 300 % 2))) 11 (nI (N / 1000))) Mh v)) (by decide +kernel) rfl ?_
      refine M.if_ne (off := 30) (tgt := 197) (nx := 170) (by decide +kernel) (fun z167 => ?_) (fun z167 => ?_)
      · refine M.blk (is := [(.iconst 0, 0, 0, 0)]) (pc1 := 198) (lo1 := [(3, .int (nI (N % 1000 % 300))), (2, .int (nI (N / 1000))), (0, .ref 0), (1, .int (nI N))]) (st1 := [.int 0]) (w1 := (WM MA (upd (upd (upd (upd (upd (upd MS 12 0) 13 (-1)) 14 (nI (N % 1000 % 300 / 16 % 2))) 15 (nI (N % 1000 % 300 / 2))) 16 (nI (N % 1000 % 300 % 2))) 11 (nI (N / 1000))) Mh v)) (by decide +kernel) rfl ?_
        exact M.retz (nx := 199) (by decide +kernel) (by decide) ⟨_, rfl, fun i hi => by rw [pk_un (by omega), pk_un (by omega), pk_un (by omega), pk_un (by omega), pk_un (by omega), pk_un (by omega)], by rw [flt_k hκ hk hp (by decide), decide_eq_false (fun e => z167 ((lf_a ⟨N % 1000 % 300 / 2, by omega⟩ ⟨thr r c (N / 1000), thr_lt _ _ _⟩).mpr e))]; rfl, fun h => by rw [flt_k hκ hk hp (by decide), decide_eq_false (fun e => z167 ((lf_a ⟨N % 1000 % 300 / 2, by omega⟩ ⟨thr r c (N / 1000), thr_lt _ _ _⟩).mpr e))] at h; cases h⟩
      · refine M.blk (is := [(.aload_n 0, 0, 0, 0), (.getfield 101, 4, 13, 0), (.iconst (-1), 0, 0, (-1))]) (pc1 := 175) (lo1 := [(3, .int (nI (N % 1000 % 300))), (2, .int (nI (N / 1000))), (0, .ref 0), (1, .int (nI N))]) (st1 := [.int (-1), .int (-1)]) (w1 := (WM MA (upd (upd (upd (upd (upd (upd MS 12 0) 13 (-1)) 14 (nI (N % 1000 % 300 / 16 % 2))) 15 (nI (N % 1000 % 300 / 2))) 16 (nI (N % 1000 % 300 % 2))) 11 (nI (N / 1000))) Mh v)) (by decide +kernel) rfl ?_
        refine M.icmp_eq (off := 18) (tgt := 193) (nx := 178) (by decide +kernel) (fun _ => ?_) (fun h => absurd h (by decide))
        refine M.blk (is := [(.iconst 1, 0, 0, 1), (.goto 4, 198, 0, 0)]) (pc1 := 198) (lo1 := [(3, .int (nI (N % 1000 % 300))), (2, .int (nI (N / 1000))), (0, .ref 0), (1, .int (nI N))]) (st1 := [.int 1]) (w1 := (WM MA (upd (upd (upd (upd (upd (upd MS 12 0) 13 (-1)) 14 (nI (N % 1000 % 300 / 16 % 2))) 15 (nI (N % 1000 % 300 / 2))) 16 (nI (N % 1000 % 300 % 2))) 11 (nI (N / 1000))) Mh v)) (by decide +kernel) rfl ?_
        exact M.retz (nx := 199) (by decide +kernel) (by decide) ⟨_, rfl, fun i hi => by rw [pk_un (by omega), pk_un (by omega), pk_un (by omega), pk_un (by omega), pk_un (by omega), pk_un (by omega)], by rw [flt_k hκ hk hp (by decide), decide_eq_true ((lf_a ⟨N % 1000 % 300 / 2, by omega⟩ ⟨thr r c (N / 1000), thr_lt _ _ _⟩).mp z167)]; rfl, fun _ => ⟨rfl, by rw [hκ]; rfl, by rw [hκ]; rfl, rfl, by rw [hκ]; rfl, rfl⟩⟩
    · refine M.blk (is := [(.iconst 0, 0, 0, 0)]) (pc1 := 81) (lo1 := [(3, .int (nI (N % 1000 % 300))), (2, .int (nI (N / 1000))), (0, .ref 0), (1, .int (nI N))]) (st1 := [.int 0]) (w1 := (WM MA (upd (upd MS 11 (-1)) 12 0) Mh v)) (by decide +kernel) rfl ?_
      exact M.retz (nx := 82) (by decide +kernel) (by decide) ⟨_, rfl, fun i hi => by rw [pk_un (by omega), pk_un (by omega)], by rw [flt_no2 (by rw [hκ]; intro h; exact z77 (nI_le (b := 31) (Nat.le_of_lt_succ h) (by decide)))]; rfl, fun h => by rw [flt_no2 (by rw [hκ]; intro h; exact z77 (nI_le (b := 31) (Nat.le_of_lt_succ h) (by decide)))] at h; cases h⟩
theorem m_layNum1 {r c f h t : Nat} (hgeo : GeoOk r c f h t) (hms : MSok r c f h t MS) {N : Nat} (hN : N < 2147483648) (hκ : N % 1000 / 300 = 1) : CC 3 mX4_layFault 0 0 [.ref 0, .int (nI N)] (WM MA MS Mh v) (fun r0 w1 => ∃ MT, w1 = WM MA MT Mh v ∧ (∀ i, ¬ (11 ≤ i ∧ i ≤ 16) → MT i = MS i) ∧ r0 = some (.int (b2i (fltN r c N))) ∧ (fltN r c N = true → FS (N / 1000) (N % 1000 / 300) (N % 1000 % 300) MT)) := by
  have h25 : r * c ≤ 25 := Nat.mul_le_mul hgeo.1.2 hgeo.2.1.2
  have h9a : 9 ≤ r * c := Nat.mul_le_mul hgeo.1.1 hgeo.2.1.1
  refine CC.of okX4_layFault.1 (Nat.le_of_ble_eq_true rfl) (fun g M => ?_)
  have hcs := wf_sl (nI (N / 1000)) (sl := r * c) (by omega)
  show g 0 0 0 [(0, .ref 0), (1, .int (nI N))] [] (WM MA MS Mh v)
  refine M.blk (is := [(.aload_n 0, 0, 0, 0), (.iconst (-1), 0, 0, (-1)), (.putfield 95, 4, 11, 0), (.iload_n 1, 1, 0, 0), (.iconst (-1), 0, 0, (-1))]) (pc1 := 7) (lo1 := [(0, .ref 0), (1, .int (nI N))]) (st1 := [.int (-1), .int (nI N)]) (w1 := (WM MA (upd MS 11 (-1)) Mh v)) (by decide +kernel) rfl ?_
  refine M.icmp_ne (off := 5) (tgt := 12) (nx := 10) (by decide +kernel) (fun z7 => ?_) (fun z7 => by exfalso; exact nI_n1 hN z7)
  refine M.blk (is := [(.iload_n 1, 1, 0, 0), (.sipush 1000, 0, 0, 1000)]) (pc1 := 16) (lo1 := [(0, .ref 0), (1, .int (nI N))]) (st1 := [.int 1000, .int (nI N)]) (w1 := (WM MA (upd MS 11 (-1)) Mh v)) (by decide +kernel) rfl ?_
  refine M.idv (nx := 17) (by decide +kernel) (by decide) ?_
  rw [show nI N / 1000 = nI (N / 1000) from pk_div (a := N) (d := 1000) hN (by decide) (by decide)]
  refine M.blk (is := [(.istore_n 2, 2, 0, 0), (.iload_n 1, 1, 0, 0), (.sipush 1000, 0, 0, 1000)]) (pc1 := 22) (lo1 := [(2, .int (nI (N / 1000))), (0, .ref 0), (1, .int (nI N))]) (st1 := [.int 1000, .int (nI N)]) (w1 := (WM MA (upd MS 11 (-1)) Mh v)) (by decide +kernel) rfl ?_
  refine M.irm (nx := 23) (by decide +kernel) (by decide) ?_
  rw [show jrem (nI N) 1000 = nI (N % 1000) from hf_rem (d := 1000) hN (by decide) (by decide)]
  refine M.blk (is := [(.sipush 300, 0, 0, 300)]) (pc1 := 26) (lo1 := [(2, .int (nI (N / 1000))), (0, .ref 0), (1, .int (nI N))]) (st1 := [.int 300, .int (nI (N % 1000))]) (w1 := (WM MA (upd MS 11 (-1)) Mh v)) (by decide +kernel) rfl ?_
  refine M.irm (nx := 27) (by decide +kernel) (by decide) ?_
  rw [show jrem (nI (N % 1000)) 300 = nI (N % 1000 % 300) from hf_rem (d := 300) (by omega) (by decide) (by decide)]
  refine M.blk (is := [(.istore_n 3, 3, 0, 0), (.aload_n 0, 0, 0, 0), (.iload_n 1, 1, 0, 0), (.sipush 1000, 0, 0, 1000)]) (pc1 := 33) (lo1 := [(3, .int (nI (N % 1000 % 300))), (2, .int (nI (N / 1000))), (0, .ref 0), (1, .int (nI N))]) (st1 := [.int 1000, .int (nI N), .ref 0]) (w1 := (WM MA (upd MS 11 (-1)) Mh v)) (by decide +kernel) rfl ?_
  refine M.irm (nx := 34) (by decide +kernel) (by decide) ?_
  rw [show jrem (nI N) 1000 = nI (N % 1000) from hf_rem (d := 1000) hN (by decide) (by decide)]
  refine M.blk (is := [(.sipush 300, 0, 0, 300)]) (pc1 := 37) (lo1 := [(3, .int (nI (N % 1000 % 300))), (2, .int (nI (N / 1000))), (0, .ref 0), (1, .int (nI N))]) (st1 := [.int 300, .int (nI (N % 1000)), .ref 0]) (w1 := (WM MA (upd MS 11 (-1)) Mh v)) (by decide +kernel) rfl ?_
  refine M.idv (nx := 38) (by decide +kernel) (by decide) ?_
  rw [show nI (N % 1000) / 300 = 1 from (pk_div (a := N % 1000) (d := 300) (by omega) (by decide) (by decide)).trans (congrArg nI hκ)]
  refine M.blk (is := [(.putfield 98, 4, 12, 0), (.iload_n 1, 1, 0, 0)]) (pc1 := 42) (lo1 := [(3, .int (nI (N % 1000 % 300))), (2, .int (nI (N / 1000))), (0, .ref 0), (1, .int (nI N))]) (st1 := [.int (nI N)]) (w1 := (WM MA (upd (upd MS 11 (-1)) 12 1) Mh v)) (by decide +kernel) rfl ?_
  refine M.if_lt (off := 38) (tgt := 80) (nx := 45) (by decide +kernel) (fun z42 => by exfalso; exact nI_pos (by omega) z42) (fun z42 => ?_)
  refine M.blk (is := [(.aload_n 0, 0, 0, 0), (.iload_n 2, 2, 0, 0)]) (pc1 := 47) (lo1 := [(3, .int (nI (N % 1000 % 300))), (2, .int (nI (N / 1000))), (0, .ref 0), (1, .int (nI N))]) (st1 := [.int (nI (N / 1000)), .ref 0]) (w1 := (WM MA (upd (upd MS 11 (-1)) 12 1) Mh v)) (by decide +kernel) rfl ?_
  refine M.callVi (as := [.int (nI (N / 1000))]) (st := []) (nx := 50) okX4_isCell lkX4_86 (m_isCell (MS := (upd (upd MS 11 (-1)) 12 1)) hgeo hms (nI (N / 1000))) (by decide +kernel) (by decide) rfl (Nat.le_of_ble_eq_true rfl) rfl (by decide) ?_
  refine M.if_eq (off := 30) (tgt := 80) (nx := 53) (by decide +kernel) (fun z50 => ?_) (fun z50 => ?_)
  · refine M.blk (is := [(.iconst 0, 0, 0, 0)]) (pc1 := 81) (lo1 := [(3, .int (nI (N % 1000 % 300))), (2, .int (nI (N / 1000))), (0, .ref 0), (1, .int (nI N))]) (st1 := [.int 0]) (w1 := (WM MA (upd (upd MS 11 (-1)) 12 1) Mh v)) (by decide +kernel) rfl ?_
    exact M.retz (nx := 82) (by decide +kernel) (by decide) ⟨_, rfl, fun i hi => by rw [pk_un (by omega), pk_un (by omega)], by rw [flt_no1 (fun h => by rcases hcs with ⟨_, e⟩ | ⟨e, _⟩; exact e _ h rfl; exact absurd (z50.symm.trans e) (by decide))]; rfl, fun h => by rw [flt_no1 (fun h => by rcases hcs with ⟨_, e⟩ | ⟨e, _⟩; exact e _ h rfl; exact absurd (z50.symm.trans e) (by decide))] at h; cases h⟩
  · have hk : N / 1000 < r * c := by
      rcases hcs with ⟨e, _⟩ | ⟨_, k, hk, e⟩
      · exact absurd e z50
      · rw [nI_inj (by omega) (by omega) e]; exact hk
    refine M.blk (is := [(.aload_n 0, 0, 0, 0), (.getfield 98, 4, 12, 0), (.iconst 2, 0, 0, 2)]) (pc1 := 58) (lo1 := [(3, .int (nI (N % 1000 % 300))), (2, .int (nI (N / 1000))), (0, .ref 0), (1, .int (nI N))]) (st1 := [.int 2, .int 1]) (w1 := (WM MA (upd (upd MS 11 (-1)) 12 1) Mh v)) (by decide +kernel) rfl ?_
    refine M.icmp_gt (off := 22) (tgt := 80) (nx := 61) (by decide +kernel) (fun h => absurd h (by decide)) (fun _ => ?_)
    refine M.blk (is := [(.iload_n 3, 3, 0, 0), (.aload_n 0, 0, 0, 0), (.getfield 98, 4, 12, 0), (.iconst 2, 0, 0, 2)]) (pc1 := 67) (lo1 := [(3, .int (nI (N % 1000 % 300))), (2, .int (nI (N / 1000))), (0, .ref 0), (1, .int (nI N))]) (st1 := [.int 2, .int 1, .int (nI (N % 1000 % 300))]) (w1 := (WM MA (upd (upd MS 11 (-1)) 12 1) Mh v)) (by decide +kernel) rfl ?_
    refine M.icmp_ne (off := 8) (tgt := 75) (nx := 70) (by decide +kernel) (fun _ => ?_) (fun h => absurd h (by decide))
    refine M.blk (is := [(.bipush 31, 0, 0, 31)]) (pc1 := 77) (lo1 := [(3, .int (nI (N % 1000 % 300))), (2, .int (nI (N / 1000))), (0, .ref 0), (1, .int (nI N))]) (st1 := [.int 31, .int (nI (N % 1000 % 300))]) (w1 := (WM MA (upd (upd MS 11 (-1)) 12 1) Mh v)) (by decide +kernel) rfl ?_
    refine M.icmp_le (off := 5) (tgt := 82) (nx := 80) (by decide +kernel) (fun z77 => ?_) (fun z77 => ?_)
    · have hp : N % 1000 % 300 < 32 := (show N % 1000 % 300 ≤ 31 from (nI_leI (by omega) (by decide)).mp z77) |> Nat.lt_succ_of_le
      refine M.blk (is := [(.aload_n 0, 0, 0, 0), (.aload_n 0, 0, 0, 0), (.getfield 98, 4, 12, 0), (.iconst 2, 0, 0, 2)]) (pc1 := 88) (lo1 := [(3, .int (nI (N % 1000 % 300))), (2, .int (nI (N / 1000))), (0, .ref 0), (1, .int (nI N))]) (st1 := [.int 2, .int 1, .ref 0]) (w1 := (WM MA (upd (upd MS 11 (-1)) 12 1) Mh v)) (by decide +kernel) rfl ?_
      refine M.icmp_ne (off := 10) (tgt := 98) (nx := 91) (by decide +kernel) (fun _ => ?_) (fun h => absurd h (by decide))
      refine M.blk (is := [(.iconst (-1), 0, 0, (-1)), (.putfield 101, 4, 13, 0), (.aload_n 0, 0, 0, 0), (.iload_n 3, 3, 0, 0), (.bipush 16, 0, 0, 16)]) (pc1 := 106) (lo1 := [(3, .int (nI (N % 1000 % 300))), (2, .int (nI (N / 1000))), (0, .ref 0), (1, .int (nI N))]) (st1 := [.int 16, .int (nI (N % 1000 % 300)), .ref 0]) (w1 := (WM MA (upd (upd (upd MS 11 (-1)) 12 1) 13 (-1)) Mh v)) (by decide +kernel) rfl ?_
      refine M.idv (nx := 107) (by decide +kernel) (by decide) ?_
      rw [show nI (N % 1000 % 300) / 16 = nI (N % 1000 % 300 / 16) from pk_div (a := N % 1000 % 300) (d := 16) (by omega) (by decide) (by decide)]
      refine M.blk (is := [(.iconst 2, 0, 0, 2)]) (pc1 := 108) (lo1 := [(3, .int (nI (N % 1000 % 300))), (2, .int (nI (N / 1000))), (0, .ref 0), (1, .int (nI N))]) (st1 := [.int 2, .int (nI (N % 1000 % 300 / 16)), .ref 0]) (w1 := (WM MA (upd (upd (upd MS 11 (-1)) 12 1) 13 (-1)) Mh v)) (by decide +kernel) rfl ?_
      refine M.irm (nx := 109) (by decide +kernel) (by decide) ?_
      rw [show jrem (nI (N % 1000 % 300 / 16)) 2 = nI (N % 1000 % 300 / 16 % 2) from hf_rem (d := 2) (by omega) (by decide) (by decide)]
      refine M.blk (is := [(.putfield 104, 4, 14, 0), (.aload_n 0, 0, 0, 0), (.aload_n 0, 0, 0, 0), (.getfield 98, 4, 12, 0), (.iconst 2, 0, 0, 2)]) (pc1 := 118) (lo1 := [(3, .int (nI (N % 1000 % 300))), (2, .int (nI (N / 1000))), (0, .ref 0), (1, .int (nI N))]) (st1 := [.int 2, .int 1, .ref 0]) (w1 := (WM MA (upd (upd (upd (upd MS 11 (-1)) 12 1) 13 (-1)) 14 (nI (N % 1000 % 300 / 16 % 2))) Mh v)) (by decide +kernel) rfl ?_
      refine M.icmp_ne (off := 19) (tgt := 137) (nx := 121) (by decide +kernel) (fun _ => ?_) (fun h => absurd h (by decide))
      refine M.blk (is := [(.iload_n 3, 3, 0, 0), (.iconst 2, 0, 0, 2)]) (pc1 := 139) (lo1 := [(3, .int (nI (N % 1000 % 300))), (2, .int (nI (N / 1000))), (0, .ref 0), (1, .int (nI N))]) (st1 := [.int 2, .int (nI (N % 1000 % 300)), .ref 0]) (w1 := (WM MA (upd (upd (upd (upd MS 11 (-1)) 12 1) 13 (-1)) 14 (nI (N % 1000 % 300 / 16 % 2))) Mh v)) (by decide +kernel) rfl ?_
      refine M.idv (nx := 140) (by decide +kernel) (by decide) ?_
      rw [show nI (N % 1000 % 300) / 2 = nI (N % 1000 % 300 / 2) from pk_div (a := N % 1000 % 300) (d := 2) (by omega) (by decide) (by decide)]
      refine M.blk (is := [(.putfield 110, 4, 15, 0), (.aload_n 0, 0, 0, 0), (.iload_n 3, 3, 0, 0), (.iconst 2, 0, 0, 2)]) (pc1 := 146) (lo1 := [(3, .int (nI (N % 1000 % 300))), (2, .int (nI (N / 1000))), (0, .ref 0), (1, .int (nI N))]) (st1 := [.int 2, .int (nI (N % 1000 % 300)), .ref 0]) (w1 := (WM MA (upd (upd (upd (upd (upd MS 11 (-1)) 12 1) 13 (-1)) 14 (nI (N % 1000 % 300 / 16 % 2))) 15 (nI (N % 1000 % 300 / 2))) Mh v)) (by decide +kernel) rfl ?_
      refine M.irm (nx := 147) (by decide +kernel) (by decide) ?_
      rw [show jrem (nI (N % 1000 % 300)) 2 = nI (N % 1000 % 300 % 2) from hf_rem (d := 2) (by omega) (by decide) (by decide)]
      refine M.blk (is := [(.putfield 113, 4, 16, 0), (.aload_n 0, 0, 0, 0), (.iload_n 2, 2, 0, 0), (.putfield 95, 4, 11, 0), (.aload_n 0, 0, 0, 0), (.getfield 110, 4, 15, 0), (.aload_n 0, 0, 0, 0), (.iload_n 2, 2, 0, 0)]) (pc1 := 161) (lo1 := [(3, .int (nI (N % 1000 % 300))), (2, .int (nI (N / 1000))), (0, .ref 0), (1, .int (nI N))]) (st1 := [.int (nI (N / 1000)), .ref 0, .int (nI (N % 1000 % 300 / 2))]) (w1 := (WM MA (upd (upd (upd (upd (upd (upd MS 12 1) 13 (-1)) 14 (nI (N % 1000 % 300 / 16 % 2))) 15 (nI (N % 1000 % 300 / 2))) 16 (nI (N % 1000 % 300 % 2))) 11 (nI (N / 1000))) Mh v)) (by decide +kernel) rfl ?_
      refine M.callVi (as := [.int (nI (N / 1000))]) (st := [.int (nI (N % 1000 % 300 / 2))]) (nx := 164) okX4_besides lkX4_116 (m_besides (MS := (upd (upd (upd (upd (upd (upd MS 12 1) 13 (-1)) 14 (nI (N % 1000 % 300 / 16 % 2))) 15 (nI (N % 1000 % 300 / 2))) 16 (nI (N % 1000 % 300 % 2))) 11 (nI (N / 1000)))) hgeo hms hk) (by decide +kernel) (by decide) rfl (Nat.le_of_ble_eq_true rfl) rfl (by decide) ?_
      refine M.blk (is := [(.iconst (-1), 0, 0, (-1)), (.ixor, 0, 0, 0), (.iand, 0, 0, 0)]) (pc1 := 167) (lo1 := [(3, .int (nI (N % 1000 % 300))), (2, .int (nI (N / 1000))), (0, .ref 0), (1, .int (nI N))]) (st1 := [.int ((nI (N % 1000 % 300 / 2)) &&& ((nI (thr r c (N / 1000))) ^^^ (-1)))]) (w1 := (WM MA (upd (upd (upd (upd (upd (upd MS 12 1) 13 (-1)) 14 (nI (N % 1000 % 300 / 16 % 2))) 15 (nI (N % 1000 % 300 / 2))) 16 (nI (N % 1000 % 300 % 2))) 11 (nI (N / 1000))) Mh v)) (by decide +kernel) rfl ?_
      refine M.if_ne (off := 30) (tgt := 197) (nx := 170) (by decide +kernel) (fun z167 => ?_) (fun z167 => ?_)
      · refine M.blk (is := [(.iconst 0, 0, 0, 0)]) (pc1 := 198) (lo1 := [(3, .int (nI (N % 1000 % 300))), (2, .int (nI (N / 1000))), (0, .ref 0), (1, .int (nI N))]) (st1 := [.int 0]) (w1 := (WM MA (upd (upd (upd (upd (upd (upd MS 12 1) 13 (-1)) 14 (nI (N % 1000 % 300 / 16 % 2))) 15 (nI (N % 1000 % 300 / 2))) 16 (nI (N % 1000 % 300 % 2))) 11 (nI (N / 1000))) Mh v)) (by decide +kernel) rfl ?_
        exact M.retz (nx := 199) (by decide +kernel) (by decide) ⟨_, rfl, fun i hi => by rw [pk_un (by omega), pk_un (by omega), pk_un (by omega), pk_un (by omega), pk_un (by omega), pk_un (by omega)], by rw [flt_k hκ hk hp (by decide), decide_eq_false (fun e => z167 ((lf_a ⟨N % 1000 % 300 / 2, by omega⟩ ⟨thr r c (N / 1000), thr_lt _ _ _⟩).mpr e))]; rfl, fun h => by rw [flt_k hκ hk hp (by decide), decide_eq_false (fun e => z167 ((lf_a ⟨N % 1000 % 300 / 2, by omega⟩ ⟨thr r c (N / 1000), thr_lt _ _ _⟩).mpr e))] at h; cases h⟩
      · refine M.blk (is := [(.aload_n 0, 0, 0, 0), (.getfield 101, 4, 13, 0), (.iconst (-1), 0, 0, (-1))]) (pc1 := 175) (lo1 := [(3, .int (nI (N % 1000 % 300))), (2, .int (nI (N / 1000))), (0, .ref 0), (1, .int (nI N))]) (st1 := [.int (-1), .int (-1)]) (w1 := (WM MA (upd (upd (upd (upd (upd (upd MS 12 1) 13 (-1)) 14 (nI (N % 1000 % 300 / 16 % 2))) 15 (nI (N % 1000 % 300 / 2))) 16 (nI (N % 1000 % 300 % 2))) 11 (nI (N / 1000))) Mh v)) (by decide +kernel) rfl ?_
        refine M.icmp_eq (off := 18) (tgt := 193) (nx := 178) (by decide +kernel) (fun _ => ?_) (fun h => absurd h (by decide))
        refine M.blk (is := [(.iconst 1, 0, 0, 1), (.goto 4, 198, 0, 0)]) (pc1 := 198) (lo1 := [(3, .int (nI (N % 1000 % 300))), (2, .int (nI (N / 1000))), (0, .ref 0), (1, .int (nI N))]) (st1 := [.int 1]) (w1 := (WM MA (upd (upd (upd (upd (upd (upd MS 12 1) 13 (-1)) 14 (nI (N % 1000 % 300 / 16 % 2))) 15 (nI (N % 1000 % 300 / 2))) 16 (nI (N % 1000 % 300 % 2))) 11 (nI (N / 1000))) Mh v)) (by decide +kernel) rfl ?_
        exact M.retz (nx := 199) (by decide +kernel) (by decide) ⟨_, rfl, fun i hi => by rw [pk_un (by omega), pk_un (by omega), pk_un (by omega), pk_un (by omega), pk_un (by omega), pk_un (by omega)], by rw [flt_k hκ hk hp (by decide), decide_eq_true ((lf_a ⟨N % 1000 % 300 / 2, by omega⟩ ⟨thr r c (N / 1000), thr_lt _ _ _⟩).mp z167)]; rfl, fun _ => ⟨rfl, by rw [hκ]; rfl, by rw [hκ]; rfl, rfl, by rw [hκ]; rfl, rfl⟩⟩
    · refine M.blk (is := [(.iconst 0, 0, 0, 0)]) (pc1 := 81) (lo1 := [(3, .int (nI (N % 1000 % 300))), (2, .int (nI (N / 1000))), (0, .ref 0), (1, .int (nI N))]) (st1 := [.int 0]) (w1 := (WM MA (upd (upd MS 11 (-1)) 12 1) Mh v)) (by decide +kernel) rfl ?_
      exact M.retz (nx := 82) (by decide +kernel) (by decide) ⟨_, rfl, fun i hi => by rw [pk_un (by omega), pk_un (by omega)], by rw [flt_no2 (by rw [hκ]; intro h; exact z77 (nI_le (b := 31) (Nat.le_of_lt_succ h) (by decide)))]; rfl, fun h => by rw [flt_no2 (by rw [hκ]; intro h; exact z77 (nI_le (b := 31) (Nat.le_of_lt_succ h) (by decide)))] at h; cases h⟩
theorem m_layNum2 {r c f h t : Nat} (hgeo : GeoOk r c f h t) (hms : MSok r c f h t MS) {N : Nat} (hN : N < 2147483648) (hκ : N % 1000 / 300 = 2) : CC 3 mX4_layFault 0 0 [.ref 0, .int (nI N)] (WM MA MS Mh v) (fun r0 w1 => ∃ MT, w1 = WM MA MT Mh v ∧ (∀ i, ¬ (11 ≤ i ∧ i ≤ 16) → MT i = MS i) ∧ r0 = some (.int (b2i (fltN r c N))) ∧ (fltN r c N = true → FS (N / 1000) (N % 1000 / 300) (N % 1000 % 300) MT)) := by
  have h25 : r * c ≤ 25 := Nat.mul_le_mul hgeo.1.2 hgeo.2.1.2
  have h9a : 9 ≤ r * c := Nat.mul_le_mul hgeo.1.1 hgeo.2.1.1
  refine CC.of okX4_layFault.1 (Nat.le_of_ble_eq_true rfl) (fun g M => ?_)
  have hcs := wf_sl (nI (N / 1000)) (sl := r * c) (by omega)
  show g 0 0 0 [(0, .ref 0), (1, .int (nI N))] [] (WM MA MS Mh v)
  refine M.blk (is := [(.aload_n 0, 0, 0, 0), (.iconst (-1), 0, 0, (-1)), (.putfield 95, 4, 11, 0), (.iload_n 1, 1, 0, 0), (.iconst (-1), 0, 0, (-1))]) (pc1 := 7) (lo1 := [(0, .ref 0), (1, .int (nI N))]) (st1 := [.int (-1), .int (nI N)]) (w1 := (WM MA (upd MS 11 (-1)) Mh v)) (by decide +kernel) rfl ?_
  refine M.icmp_ne (off := 5) (tgt := 12) (nx := 10) (by decide +kernel) (fun z7 => ?_) (fun z7 => by exfalso; exact nI_n1 hN z7)
  refine M.blk (is := [(.iload_n 1, 1, 0, 0), (.sipush 1000, 0, 0, 1000)]) (pc1 := 16) (lo1 := [(0, .ref 0), (1, .int (nI N))]) (st1 := [.int 1000, .int (nI N)]) (w1 := (WM MA (upd MS 11 (-1)) Mh v)) (by decide +kernel) rfl ?_
  refine M.idv (nx := 17) (by decide +kernel) (by decide) ?_
  rw [show nI N / 1000 = nI (N / 1000) from pk_div (a := N) (d := 1000) hN (by decide) (by decide)]
  refine M.blk (is := [(.istore_n 2, 2, 0, 0), (.iload_n 1, 1, 0, 0), (.sipush 1000, 0, 0, 1000)]) (pc1 := 22) (lo1 := [(2, .int (nI (N / 1000))), (0, .ref 0), (1, .int (nI N))]) (st1 := [.int 1000, .int (nI N)]) (w1 := (WM MA (upd MS 11 (-1)) Mh v)) (by decide +kernel) rfl ?_
  refine M.irm (nx := 23) (by decide +kernel) (by decide) ?_
  rw [show jrem (nI N) 1000 = nI (N % 1000) from hf_rem (d := 1000) hN (by decide) (by decide)]
  refine M.blk (is := [(.sipush 300, 0, 0, 300)]) (pc1 := 26) (lo1 := [(2, .int (nI (N / 1000))), (0, .ref 0), (1, .int (nI N))]) (st1 := [.int 300, .int (nI (N % 1000))]) (w1 := (WM MA (upd MS 11 (-1)) Mh v)) (by decide +kernel) rfl ?_
  refine M.irm (nx := 27) (by decide +kernel) (by decide) ?_
  rw [show jrem (nI (N % 1000)) 300 = nI (N % 1000 % 300) from hf_rem (d := 300) (by omega) (by decide) (by decide)]
  refine M.blk (is := [(.istore_n 3, 3, 0, 0), (.aload_n 0, 0, 0, 0), (.iload_n 1, 1, 0, 0), (.sipush 1000, 0, 0, 1000)]) (pc1 := 33) (lo1 := [(3, .int (nI (N % 1000 % 300))), (2, .int (nI (N / 1000))), (0, .ref 0), (1, .int (nI N))]) (st1 := [.int 1000, .int (nI N), .ref 0]) (w1 := (WM MA (upd MS 11 (-1)) Mh v)) (by decide +kernel) rfl ?_
  refine M.irm (nx := 34) (by decide +kernel) (by decide) ?_
  rw [show jrem (nI N) 1000 = nI (N % 1000) from hf_rem (d := 1000) hN (by decide) (by decide)]
  refine M.blk (is := [(.sipush 300, 0, 0, 300)]) (pc1 := 37) (lo1 := [(3, .int (nI (N % 1000 % 300))), (2, .int (nI (N / 1000))), (0, .ref 0), (1, .int (nI N))]) (st1 := [.int 300, .int (nI (N % 1000)), .ref 0]) (w1 := (WM MA (upd MS 11 (-1)) Mh v)) (by decide +kernel) rfl ?_
  refine M.idv (nx := 38) (by decide +kernel) (by decide) ?_
  rw [show nI (N % 1000) / 300 = 2 from (pk_div (a := N % 1000) (d := 300) (by omega) (by decide) (by decide)).trans (congrArg nI hκ)]
  refine M.blk (is := [(.putfield 98, 4, 12, 0), (.iload_n 1, 1, 0, 0)]) (pc1 := 42) (lo1 := [(3, .int (nI (N % 1000 % 300))), (2, .int (nI (N / 1000))), (0, .ref 0), (1, .int (nI N))]) (st1 := [.int (nI N)]) (w1 := (WM MA (upd (upd MS 11 (-1)) 12 2) Mh v)) (by decide +kernel) rfl ?_
  refine M.if_lt (off := 38) (tgt := 80) (nx := 45) (by decide +kernel) (fun z42 => by exfalso; exact nI_pos (by omega) z42) (fun z42 => ?_)
  refine M.blk (is := [(.aload_n 0, 0, 0, 0), (.iload_n 2, 2, 0, 0)]) (pc1 := 47) (lo1 := [(3, .int (nI (N % 1000 % 300))), (2, .int (nI (N / 1000))), (0, .ref 0), (1, .int (nI N))]) (st1 := [.int (nI (N / 1000)), .ref 0]) (w1 := (WM MA (upd (upd MS 11 (-1)) 12 2) Mh v)) (by decide +kernel) rfl ?_
  refine M.callVi (as := [.int (nI (N / 1000))]) (st := []) (nx := 50) okX4_isCell lkX4_86 (m_isCell (MS := (upd (upd MS 11 (-1)) 12 2)) hgeo hms (nI (N / 1000))) (by decide +kernel) (by decide) rfl (Nat.le_of_ble_eq_true rfl) rfl (by decide) ?_
  refine M.if_eq (off := 30) (tgt := 80) (nx := 53) (by decide +kernel) (fun z50 => ?_) (fun z50 => ?_)
  · refine M.blk (is := [(.iconst 0, 0, 0, 0)]) (pc1 := 81) (lo1 := [(3, .int (nI (N % 1000 % 300))), (2, .int (nI (N / 1000))), (0, .ref 0), (1, .int (nI N))]) (st1 := [.int 0]) (w1 := (WM MA (upd (upd MS 11 (-1)) 12 2) Mh v)) (by decide +kernel) rfl ?_
    exact M.retz (nx := 82) (by decide +kernel) (by decide) ⟨_, rfl, fun i hi => by rw [pk_un (by omega), pk_un (by omega)], by rw [flt_no1 (fun h => by rcases hcs with ⟨_, e⟩ | ⟨e, _⟩; exact e _ h rfl; exact absurd (z50.symm.trans e) (by decide))]; rfl, fun h => by rw [flt_no1 (fun h => by rcases hcs with ⟨_, e⟩ | ⟨e, _⟩; exact e _ h rfl; exact absurd (z50.symm.trans e) (by decide))] at h; cases h⟩
  · have hk : N / 1000 < r * c := by
      rcases hcs with ⟨e, _⟩ | ⟨_, k, hk, e⟩
      · exact absurd e z50
      · rw [nI_inj (by omega) (by omega) e]; exact hk
    refine M.blk (is := [(.aload_n 0, 0, 0, 0), (.getfield 98, 4, 12, 0), (.iconst 2, 0, 0, 2)]) (pc1 := 58) (lo1 := [(3, .int (nI (N % 1000 % 300))), (2, .int (nI (N / 1000))), (0, .ref 0), (1, .int (nI N))]) (st1 := [.int 2, .int 2]) (w1 := (WM MA (upd (upd MS 11 (-1)) 12 2) Mh v)) (by decide +kernel) rfl ?_
    refine M.icmp_gt (off := 22) (tgt := 80) (nx := 61) (by decide +kernel) (fun h => absurd h (by decide)) (fun _ => ?_)
    refine M.blk (is := [(.iload_n 3, 3, 0, 0), (.aload_n 0, 0, 0, 0), (.getfield 98, 4, 12, 0), (.iconst 2, 0, 0, 2)]) (pc1 := 67) (lo1 := [(3, .int (nI (N % 1000 % 300))), (2, .int (nI (N / 1000))), (0, .ref 0), (1, .int (nI N))]) (st1 := [.int 2, .int 2, .int (nI (N % 1000 % 300))]) (w1 := (WM MA (upd (upd MS 11 (-1)) 12 2) Mh v)) (by decide +kernel) rfl ?_
    refine M.icmp_ne (off := 8) (tgt := 75) (nx := 70) (by decide +kernel) (fun h => absurd h (by decide)) (fun _ => ?_)
    refine M.blk (is := [(.bipush 127, 0, 0, 127), (.goto 5, 77, 0, 0)]) (pc1 := 77) (lo1 := [(3, .int (nI (N % 1000 % 300))), (2, .int (nI (N / 1000))), (0, .ref 0), (1, .int (nI N))]) (st1 := [.int 127, .int (nI (N % 1000 % 300))]) (w1 := (WM MA (upd (upd MS 11 (-1)) 12 2) Mh v)) (by decide +kernel) rfl ?_
    refine M.icmp_le (off := 5) (tgt := 82) (nx := 80) (by decide +kernel) (fun z77 => ?_) (fun z77 => ?_)
    · have hp : N % 1000 % 300 < 128 := (show N % 1000 % 300 ≤ 127 from (nI_leI (by omega) (by decide)).mp z77) |> Nat.lt_succ_of_le
      refine M.blk (is := [(.aload_n 0, 0, 0, 0), (.aload_n 0, 0, 0, 0), (.getfield 98, 4, 12, 0), (.iconst 2, 0, 0, 2)]) (pc1 := 88) (lo1 := [(3, .int (nI (N % 1000 % 300))), (2, .int (nI (N / 1000))), (0, .ref 0), (1, .int (nI N))]) (st1 := [.int 2, .int 2, .ref 0]) (w1 := (WM MA (upd (upd MS 11 (-1)) 12 2) Mh v)) (by decide +kernel) rfl ?_
      refine M.icmp_ne (off := 10) (tgt := 98) (nx := 91) (by decide +kernel) (fun h => absurd h (by decide)) (fun _ => ?_)
      refine M.blk (is := [(.iload_n 3, 3, 0, 0), (.bipush 32, 0, 0, 32)]) (pc1 := 94) (lo1 := [(3, .int (nI (N % 1000 % 300))), (2, .int (nI (N / 1000))), (0, .ref 0), (1, .int (nI N))]) (st1 := [.int 32, .int (nI (N % 1000 % 300)), .ref 0]) (w1 := (WM MA (upd (upd MS 11 (-1)) 12 2) Mh v)) (by decide +kernel) rfl ?_
      refine M.idv (nx := 95) (by decide +kernel) (by decide) ?_
      rw [show nI (N % 1000 % 300) / 32 = nI (N % 1000 % 300 / 32) from pk_div (a := N % 1000 % 300) (d := 32) (by omega) (by decide) (by decide)]
      refine M.blk (is := [(.goto 4, 99, 0, 0), (.putfield 101, 4, 13, 0), (.aload_n 0, 0, 0, 0), (.iload_n 3, 3, 0, 0), (.bipush 16, 0, 0, 16)]) (pc1 := 106) (lo1 := [(3, .int (nI (N % 1000 % 300))), (2, .int (nI (N / 1000))), (0, .ref 0), (1, .int (nI N))]) (st1 := [.int 16, .int (nI (N % 1000 % 300)), .ref 0]) (w1 := (WM MA (upd (upd (upd MS 11 (-1)) 12 2) 13 (nI (N % 1000 % 300 / 32))) Mh v)) (by decide +kernel) rfl ?_
      refine M.idv (nx := 107) (by decide +kernel) (by decide) ?_
      rw [show nI (N % 1000 % 300) / 16 = nI (N % 1000 % 300 / 16) from pk_div (a := N % 1000 % 300) (d := 16) (by omega) (by decide) (by decide)]
      refine M.blk (is := [(.iconst 2, 0, 0, 2)]) (pc1 := 108) (lo1 := [(3, .int (nI (N % 1000 % 300))), (2, .int (nI (N / 1000))), (0, .ref 0), (1, .int (nI N))]) (st1 := [.int 2, .int (nI (N % 1000 % 300 / 16)), .ref 0]) (w1 := (WM MA (upd (upd (upd MS 11 (-1)) 12 2) 13 (nI (N % 1000 % 300 / 32))) Mh v)) (by decide +kernel) rfl ?_
      refine M.irm (nx := 109) (by decide +kernel) (by decide) ?_
      rw [show jrem (nI (N % 1000 % 300 / 16)) 2 = nI (N % 1000 % 300 / 16 % 2) from hf_rem (d := 2) (by omega) (by decide) (by decide)]
      refine M.blk (is := [(.putfield 104, 4, 14, 0), (.aload_n 0, 0, 0, 0), (.aload_n 0, 0, 0, 0), (.getfield 98, 4, 12, 0), (.iconst 2, 0, 0, 2)]) (pc1 := 118) (lo1 := [(3, .int (nI (N % 1000 % 300))), (2, .int (nI (N / 1000))), (0, .ref 0), (1, .int (nI N))]) (st1 := [.int 2, .int 2, .ref 0]) (w1 := (WM MA (upd (upd (upd (upd MS 11 (-1)) 12 2) 13 (nI (N % 1000 % 300 / 32))) 14 (nI (N % 1000 % 300 / 16 % 2))) Mh v)) (by decide +kernel) rfl ?_
      refine M.icmp_ne (off := 19) (tgt := 137) (nx := 121) (by decide +kernel) (fun h => absurd h (by decide)) (fun _ => ?_)
      refine M.blk (is := [(.iload_n 3, 3, 0, 0), (.iconst 2, 0, 0, 2)]) (pc1 := 123) (lo1 := [(3, .int (nI (N % 1000 % 300))), (2, .int (nI (N / 1000))), (0, .ref 0), (1, .int (nI N))]) (st1 := [.int 2, .int (nI (N % 1000 % 300)), .ref 0]) (w1 := (WM MA (upd (upd (upd (upd MS 11 (-1)) 12 2) 13 (nI (N % 1000 % 300 / 32))) 14 (nI (N % 1000 % 300 / 16 % 2))) Mh v)) (by decide +kernel) rfl ?_
      refine M.idv (nx := 124) (by decide +kernel) (by decide) ?_
      rw [show nI (N % 1000 % 300) / 2 = nI (N % 1000 % 300 / 2) from pk_div (a := N % 1000 % 300) (d := 2) (by omega) (by decide) (by decide)]
      refine M.blk (is := [(.bipush 8, 0, 0, 8)]) (pc1 := 126) (lo1 := [(3, .int (nI (N % 1000 % 300))), (2, .int (nI (N / 1000))), (0, .ref 0), (1, .int (nI N))]) (st1 := [.int 8, .int (nI (N % 1000 % 300 / 2)), .ref 0]) (w1 := (WM MA (upd (upd (upd (upd MS 11 (-1)) 12 2) 13 (nI (N % 1000 % 300 / 32))) 14 (nI (N % 1000 % 300 / 16 % 2))) Mh v)) (by decide +kernel) rfl ?_
      refine M.irm (nx := 127) (by decide +kernel) (by decide) ?_
      rw [show jrem (nI (N % 1000 % 300 / 2)) 8 = nI (N % 1000 % 300 / 2 % 8) from hf_rem (d := 8) (by omega) (by decide) (by decide)]
      refine M.blk (is := [(.aload_n 0, 0, 0, 0), (.getfield 101, 4, 13, 0)]) (pc1 := 131) (lo1 := [(3, .int (nI (N % 1000 % 300))), (2, .int (nI (N / 1000))), (0, .ref 0), (1, .int (nI N))]) (st1 := [.int (nI (N % 1000 % 300 / 32)), .int (nI (N % 1000 % 300 / 2 % 8)), .ref 0]) (w1 := (WM MA (upd (upd (upd (upd MS 11 (-1)) 12 2) 13 (nI (N % 1000 % 300 / 32))) 14 (nI (N % 1000 % 300 / 16 % 2))) Mh v)) (by decide +kernel) rfl ?_
      refine M.callSi (as := [.int (nI (N % 1000 % 300 / 2 % 8)), .int (nI (N % 1000 % 300 / 32))]) (st := [.ref 0]) (nx := 134) okX4_widened lkX4_107 (s_widened (WM MA (upd (upd (upd (upd MS 11 (-1)) 12 2) 13 (nI (N % 1000 % 300 / 32))) 14 (nI (N % 1000 % 300 / 16 % 2))) Mh v) (q := N % 1000 % 300 / 2 % 8) (k := N % 1000 % 300 / 32) (by omega) (by omega)) (by decide +kernel) (by decide) rfl (Nat.le_of_ble_eq_true rfl) ?_
      refine M.blk (is := [(.goto 6, 140, 0, 0), (.putfield 110, 4, 15, 0), (.aload_n 0, 0, 0, 0), (.iload_n 3, 3, 0, 0), (.iconst 2, 0, 0, 2)]) (pc1 := 146) (lo1 := [(3, .int (nI (N % 1000 % 300))), (2, .int (nI (N / 1000))), (0, .ref 0), (1, .int (nI N))]) (st1 := [.int 2, .int (nI (N % 1000 % 300)), .ref 0]) (w1 := (WM MA (upd (upd (upd (upd (upd MS 11 (-1)) 12 2) 13 (nI (N % 1000 % 300 / 32))) 14 (nI (N % 1000 % 300 / 16 % 2))) 15 (nI (wdB (N % 1000 % 300 / 2 % 8) (N % 1000 % 300 / 32)))) Mh v)) (by decide +kernel) rfl ?_
      refine M.irm (nx := 147) (by decide +kernel) (by decide) ?_
      rw [show jrem (nI (N % 1000 % 300)) 2 = nI (N % 1000 % 300 % 2) from hf_rem (d := 2) (by omega) (by decide) (by decide)]
      refine M.blk (is := [(.putfield 113, 4, 16, 0), (.aload_n 0, 0, 0, 0), (.iload_n 2, 2, 0, 0), (.putfield 95, 4, 11, 0), (.aload_n 0, 0, 0, 0), (.getfield 110, 4, 15, 0), (.aload_n 0, 0, 0, 0), (.iload_n 2, 2, 0, 0)]) (pc1 := 161) (lo1 := [(3, .int (nI (N % 1000 % 300))), (2, .int (nI (N / 1000))), (0, .ref 0), (1, .int (nI N))]) (st1 := [.int (nI (N / 1000)), .ref 0, .int (nI (wdB (N % 1000 % 300 / 2 % 8) (N % 1000 % 300 / 32)))]) (w1 := (WM MA (upd (upd (upd (upd (upd (upd MS 12 2) 13 (nI (N % 1000 % 300 / 32))) 14 (nI (N % 1000 % 300 / 16 % 2))) 15 (nI (wdB (N % 1000 % 300 / 2 % 8) (N % 1000 % 300 / 32)))) 16 (nI (N % 1000 % 300 % 2))) 11 (nI (N / 1000))) Mh v)) (by decide +kernel) rfl ?_
      refine M.callVi (as := [.int (nI (N / 1000))]) (st := [.int (nI (wdB (N % 1000 % 300 / 2 % 8) (N % 1000 % 300 / 32)))]) (nx := 164) okX4_besides lkX4_116 (m_besides (MS := (upd (upd (upd (upd (upd (upd MS 12 2) 13 (nI (N % 1000 % 300 / 32))) 14 (nI (N % 1000 % 300 / 16 % 2))) 15 (nI (wdB (N % 1000 % 300 / 2 % 8) (N % 1000 % 300 / 32)))) 16 (nI (N % 1000 % 300 % 2))) 11 (nI (N / 1000)))) hgeo hms hk) (by decide +kernel) (by decide) rfl (Nat.le_of_ble_eq_true rfl) rfl (by decide) ?_
      refine M.blk (is := [(.iconst (-1), 0, 0, (-1)), (.ixor, 0, 0, 0), (.iand, 0, 0, 0)]) (pc1 := 167) (lo1 := [(3, .int (nI (N % 1000 % 300))), (2, .int (nI (N / 1000))), (0, .ref 0), (1, .int (nI N))]) (st1 := [.int ((nI (wdB (N % 1000 % 300 / 2 % 8) (N % 1000 % 300 / 32))) &&& ((nI (thr r c (N / 1000))) ^^^ (-1)))]) (w1 := (WM MA (upd (upd (upd (upd (upd (upd MS 12 2) 13 (nI (N % 1000 % 300 / 32))) 14 (nI (N % 1000 % 300 / 16 % 2))) 15 (nI (wdB (N % 1000 % 300 / 2 % 8) (N % 1000 % 300 / 32)))) 16 (nI (N % 1000 % 300 % 2))) 11 (nI (N / 1000))) Mh v)) (by decide +kernel) rfl ?_
      refine M.if_ne (off := 30) (tgt := 197) (nx := 170) (by decide +kernel) (fun z167 => ?_) (fun z167 => ?_)
      · refine M.blk (is := [(.iconst 0, 0, 0, 0)]) (pc1 := 198) (lo1 := [(3, .int (nI (N % 1000 % 300))), (2, .int (nI (N / 1000))), (0, .ref 0), (1, .int (nI N))]) (st1 := [.int 0]) (w1 := (WM MA (upd (upd (upd (upd (upd (upd MS 12 2) 13 (nI (N % 1000 % 300 / 32))) 14 (nI (N % 1000 % 300 / 16 % 2))) 15 (nI (wdB (N % 1000 % 300 / 2 % 8) (N % 1000 % 300 / 32)))) 16 (nI (N % 1000 % 300 % 2))) 11 (nI (N / 1000))) Mh v)) (by decide +kernel) rfl ?_
        exact M.retz (nx := 199) (by decide +kernel) (by decide) ⟨_, rfl, fun i hi => by rw [pk_un (by omega), pk_un (by omega), pk_un (by omega), pk_un (by omega), pk_un (by omega), pk_un (by omega)], by rw [flt_2 hκ hk hp, Bool.and_comm, decide_eq_false (fun e => z167 ((lf_a ⟨wdB (N % 1000 % 300 / 2 % 8) (N % 1000 % 300 / 32), lf_w ⟨N % 1000 % 300 / 2 % 8, by omega⟩ ⟨N % 1000 % 300 / 32, by omega⟩⟩ ⟨thr r c (N / 1000), thr_lt _ _ _⟩).mpr e)), Bool.false_and]; rfl, fun h => by rw [flt_2 hκ hk hp, Bool.and_comm, decide_eq_false (fun e => z167 ((lf_a ⟨wdB (N % 1000 % 300 / 2 % 8) (N % 1000 % 300 / 32), lf_w ⟨N % 1000 % 300 / 2 % 8, by omega⟩ ⟨N % 1000 % 300 / 32, by omega⟩⟩ ⟨thr r c (N / 1000), thr_lt _ _ _⟩).mpr e)), Bool.false_and] at h; cases h⟩
      · refine M.blk (is := [(.aload_n 0, 0, 0, 0), (.getfield 101, 4, 13, 0), (.iconst (-1), 0, 0, (-1))]) (pc1 := 175) (lo1 := [(3, .int (nI (N % 1000 % 300))), (2, .int (nI (N / 1000))), (0, .ref 0), (1, .int (nI N))]) (st1 := [.int (-1), .int (nI (N % 1000 % 300 / 32))]) (w1 := (WM MA (upd (upd (upd (upd (upd (upd MS 12 2) 13 (nI (N % 1000 % 300 / 32))) 14 (nI (N % 1000 % 300 / 16 % 2))) 15 (nI (wdB (N % 1000 % 300 / 2 % 8) (N % 1000 % 300 / 32)))) 16 (nI (N % 1000 % 300 % 2))) 11 (nI (N / 1000))) Mh v)) (by decide +kernel) rfl ?_
        refine M.icmp_eq (off := 18) (tgt := 193) (nx := 178) (by decide +kernel) (fun z175 => by exfalso; exact oI_ne (by omega) z175) (fun z175 => ?_)
        refine M.blk (is := [(.aload_n 0, 0, 0, 0), (.iload_n 2, 2, 0, 0)]) (pc1 := 180) (lo1 := [(3, .int (nI (N % 1000 % 300))), (2, .int (nI (N / 1000))), (0, .ref 0), (1, .int (nI N))]) (st1 := [.int (nI (N / 1000)), .ref 0]) (w1 := (WM MA (upd (upd (upd (upd (upd (upd MS 12 2) 13 (nI (N % 1000 % 300 / 32))) 14 (nI (N % 1000 % 300 / 16 % 2))) 15 (nI (wdB (N % 1000 % 300 / 2 % 8) (N % 1000 % 300 / 32)))) 16 (nI (N % 1000 % 300 % 2))) 11 (nI (N / 1000))) Mh v)) (by decide +kernel) rfl ?_
        refine M.callVi (as := [.int (nI (N / 1000))]) (st := []) (nx := 183) okX4_besides lkX4_116 (m_besides (MS := (upd (upd (upd (upd (upd (upd MS 12 2) 13 (nI (N % 1000 % 300 / 32))) 14 (nI (N % 1000 % 300 / 16 % 2))) 15 (nI (wdB (N % 1000 % 300 / 2 % 8) (N % 1000 % 300 / 32)))) 16 (nI (N % 1000 % 300 % 2))) 11 (nI (N / 1000)))) hgeo hms hk) (by decide +kernel) (by decide) rfl (Nat.le_of_ble_eq_true rfl) rfl (by decide) ?_
        refine M.blk (is := [(.aload_n 0, 0, 0, 0), (.getfield 101, 4, 13, 0)]) (pc1 := 187) (lo1 := [(3, .int (nI (N % 1000 % 300))), (2, .int (nI (N / 1000))), (0, .ref 0), (1, .int (nI N))]) (st1 := [.int (nI (N % 1000 % 300 / 32)), .int (nI (thr r c (N / 1000)))]) (w1 := (WM MA (upd (upd (upd (upd (upd (upd MS 12 2) 13 (nI (N % 1000 % 300 / 32))) 14 (nI (N % 1000 % 300 / 16 % 2))) 15 (nI (wdB (N % 1000 % 300 / 2 % 8) (N % 1000 % 300 / 32)))) 16 (nI (N % 1000 % 300 % 2))) 11 (nI (N / 1000))) Mh v)) (by decide +kernel) rfl ?_
        refine M.callSi (as := [.int (nI (thr r c (N / 1000))), .int (nI (N % 1000 % 300 / 32))]) (st := []) (nx := 190) okX4_has lkX4_119 (s_hasM (WM MA (upd (upd (upd (upd (upd (upd MS 12 2) 13 (nI (N % 1000 % 300 / 32))) 14 (nI (N % 1000 % 300 / 16 % 2))) 15 (nI (wdB (N % 1000 % 300 / 2 % 8) (N % 1000 % 300 / 32)))) 16 (nI (N % 1000 % 300 % 2))) 11 (nI (N / 1000))) Mh v) (nI (thr r c (N / 1000))) (nI (N % 1000 % 300 / 32))) (by decide +kernel) (by decide) rfl (Nat.le_of_ble_eq_true rfl) ?_
        refine M.if_eq (off := 7) (tgt := 197) (nx := 193) (by decide +kernel) (fun z190 => ?_) (fun z190 => ?_)
        · refine M.blk (is := [(.iconst 0, 0, 0, 0)]) (pc1 := 198) (lo1 := [(3, .int (nI (N % 1000 % 300))), (2, .int (nI (N / 1000))), (0, .ref 0), (1, .int (nI N))]) (st1 := [.int 0]) (w1 := (WM MA (upd (upd (upd (upd (upd (upd MS 12 2) 13 (nI (N % 1000 % 300 / 32))) 14 (nI (N % 1000 % 300 / 16 % 2))) 15 (nI (wdB (N % 1000 % 300 / 2 % 8) (N % 1000 % 300 / 32)))) 16 (nI (N % 1000 % 300 % 2))) 11 (nI (N / 1000))) Mh v)) (by decide +kernel) rfl ?_
          exact M.retz (nx := 199) (by decide +kernel) (by decide) ⟨_, rfl, fun i hi => by rw [pk_un (by omega), pk_un (by omega), pk_un (by omega), pk_un (by omega), pk_un (by omega), pk_un (by omega)], by rw [flt_2 hκ hk hp, decide_eq_false ((lf_b ⟨thr r c (N / 1000), thr_lt _ _ _⟩ ⟨N % 1000 % 300 / 32, by omega⟩).mp z190), Bool.false_and]; rfl, fun h => by rw [flt_2 hκ hk hp, decide_eq_false ((lf_b ⟨thr r c (N / 1000), thr_lt _ _ _⟩ ⟨N % 1000 % 300 / 32, by omega⟩).mp z190), Bool.false_and] at h; cases h⟩
        · refine M.blk (is := [(.iconst 1, 0, 0, 1), (.goto 4, 198, 0, 0)]) (pc1 := 198) (lo1 := [(3, .int (nI (N % 1000 % 300))), (2, .int (nI (N / 1000))), (0, .ref 0), (1, .int (nI N))]) (st1 := [.int 1]) (w1 := (WM MA (upd (upd (upd (upd (upd (upd MS 12 2) 13 (nI (N % 1000 % 300 / 32))) 14 (nI (N % 1000 % 300 / 16 % 2))) 15 (nI (wdB (N % 1000 % 300 / 2 % 8) (N % 1000 % 300 / 32)))) 16 (nI (N % 1000 % 300 % 2))) 11 (nI (N / 1000))) Mh v)) (by decide +kernel) rfl ?_
          exact M.retz (nx := 199) (by decide +kernel) (by decide) ⟨_, rfl, fun i hi => by rw [pk_un (by omega), pk_un (by omega), pk_un (by omega), pk_un (by omega), pk_un (by omega), pk_un (by omega)], by rw [flt_2 hκ hk hp, decide_eq_true (Decidable.not_not.mp (fun e => z190 ((lf_b ⟨thr r c (N / 1000), thr_lt _ _ _⟩ ⟨N % 1000 % 300 / 32, by omega⟩).mpr e))), decide_eq_true ((lf_a ⟨wdB (N % 1000 % 300 / 2 % 8) (N % 1000 % 300 / 32), lf_w ⟨N % 1000 % 300 / 2 % 8, by omega⟩ ⟨N % 1000 % 300 / 32, by omega⟩⟩ ⟨thr r c (N / 1000), thr_lt _ _ _⟩).mp z167)]; rfl, fun _ => ⟨rfl, by rw [hκ]; rfl, by rw [hκ]; rfl, rfl, by rw [hκ]; rfl, rfl⟩⟩
    · refine M.blk (is := [(.iconst 0, 0, 0, 0)]) (pc1 := 81) (lo1 := [(3, .int (nI (N % 1000 % 300))), (2, .int (nI (N / 1000))), (0, .ref 0), (1, .int (nI N))]) (st1 := [.int 0]) (w1 := (WM MA (upd (upd MS 11 (-1)) 12 2) Mh v)) (by decide +kernel) rfl ?_
      exact M.retz (nx := 82) (by decide +kernel) (by decide) ⟨_, rfl, fun i hi => by rw [pk_un (by omega), pk_un (by omega)], by rw [flt_no2 (by rw [hκ]; intro h; exact z77 (nI_le (b := 127) (Nat.le_of_lt_succ h) (by decide)))]; rfl, fun h => by rw [flt_no2 (by rw [hκ]; intro h; exact z77 (nI_le (b := 127) (Nat.le_of_lt_succ h) (by decide)))] at h; cases h⟩
theorem m_layNum3 {r c f h t : Nat} (hgeo : GeoOk r c f h t) (hms : MSok r c f h t MS) {N : Nat} (hN : N < 2147483648) (hκ : N % 1000 / 300 = 3) : CC 3 mX4_layFault 0 0 [.ref 0, .int (nI N)] (WM MA MS Mh v) (fun r0 w1 => ∃ MT, w1 = WM MA MT Mh v ∧ (∀ i, ¬ (11 ≤ i ∧ i ≤ 16) → MT i = MS i) ∧ r0 = some (.int (b2i (fltN r c N))) ∧ (fltN r c N = true → FS (N / 1000) (N % 1000 / 300) (N % 1000 % 300) MT)) := by
  have h25 : r * c ≤ 25 := Nat.mul_le_mul hgeo.1.2 hgeo.2.1.2
  have h9a : 9 ≤ r * c := Nat.mul_le_mul hgeo.1.1 hgeo.2.1.1
  refine CC.of okX4_layFault.1 (Nat.le_of_ble_eq_true rfl) (fun g M => ?_)
  have hcs := wf_sl (nI (N / 1000)) (sl := r * c) (by omega)
  show g 0 0 0 [(0, .ref 0), (1, .int (nI N))] [] (WM MA MS Mh v)
  refine M.blk (is := [(.aload_n 0, 0, 0, 0), (.iconst (-1), 0, 0, (-1)), (.putfield 95, 4, 11, 0), (.iload_n 1, 1, 0, 0), (.iconst (-1), 0, 0, (-1))]) (pc1 := 7) (lo1 := [(0, .ref 0), (1, .int (nI N))]) (st1 := [.int (-1), .int (nI N)]) (w1 := (WM MA (upd MS 11 (-1)) Mh v)) (by decide +kernel) rfl ?_
  refine M.icmp_ne (off := 5) (tgt := 12) (nx := 10) (by decide +kernel) (fun z7 => ?_) (fun z7 => by exfalso; exact nI_n1 hN z7)
  refine M.blk (is := [(.iload_n 1, 1, 0, 0), (.sipush 1000, 0, 0, 1000)]) (pc1 := 16) (lo1 := [(0, .ref 0), (1, .int (nI N))]) (st1 := [.int 1000, .int (nI N)]) (w1 := (WM MA (upd MS 11 (-1)) Mh v)) (by decide +kernel) rfl ?_
  refine M.idv (nx := 17) (by decide +kernel) (by decide) ?_
  rw [show nI N / 1000 = nI (N / 1000) from pk_div (a := N) (d := 1000) hN (by decide) (by decide)]
  refine M.blk (is := [(.istore_n 2, 2, 0, 0), (.iload_n 1, 1, 0, 0), (.sipush 1000, 0, 0, 1000)]) (pc1 := 22) (lo1 := [(2, .int (nI (N / 1000))), (0, .ref 0), (1, .int (nI N))]) (st1 := [.int 1000, .int (nI N)]) (w1 := (WM MA (upd MS 11 (-1)) Mh v)) (by decide +kernel) rfl ?_
  refine M.irm (nx := 23) (by decide +kernel) (by decide) ?_
  rw [show jrem (nI N) 1000 = nI (N % 1000) from hf_rem (d := 1000) hN (by decide) (by decide)]
  refine M.blk (is := [(.sipush 300, 0, 0, 300)]) (pc1 := 26) (lo1 := [(2, .int (nI (N / 1000))), (0, .ref 0), (1, .int (nI N))]) (st1 := [.int 300, .int (nI (N % 1000))]) (w1 := (WM MA (upd MS 11 (-1)) Mh v)) (by decide +kernel) rfl ?_
  refine M.irm (nx := 27) (by decide +kernel) (by decide) ?_
  rw [show jrem (nI (N % 1000)) 300 = nI (N % 1000 % 300) from hf_rem (d := 300) (by omega) (by decide) (by decide)]
  refine M.blk (is := [(.istore_n 3, 3, 0, 0), (.aload_n 0, 0, 0, 0), (.iload_n 1, 1, 0, 0), (.sipush 1000, 0, 0, 1000)]) (pc1 := 33) (lo1 := [(3, .int (nI (N % 1000 % 300))), (2, .int (nI (N / 1000))), (0, .ref 0), (1, .int (nI N))]) (st1 := [.int 1000, .int (nI N), .ref 0]) (w1 := (WM MA (upd MS 11 (-1)) Mh v)) (by decide +kernel) rfl ?_
  refine M.irm (nx := 34) (by decide +kernel) (by decide) ?_
  rw [show jrem (nI N) 1000 = nI (N % 1000) from hf_rem (d := 1000) hN (by decide) (by decide)]
  refine M.blk (is := [(.sipush 300, 0, 0, 300)]) (pc1 := 37) (lo1 := [(3, .int (nI (N % 1000 % 300))), (2, .int (nI (N / 1000))), (0, .ref 0), (1, .int (nI N))]) (st1 := [.int 300, .int (nI (N % 1000)), .ref 0]) (w1 := (WM MA (upd MS 11 (-1)) Mh v)) (by decide +kernel) rfl ?_
  refine M.idv (nx := 38) (by decide +kernel) (by decide) ?_
  rw [show nI (N % 1000) / 300 = 3 from (pk_div (a := N % 1000) (d := 300) (by omega) (by decide) (by decide)).trans (congrArg nI hκ)]
  refine M.blk (is := [(.putfield 98, 4, 12, 0), (.iload_n 1, 1, 0, 0)]) (pc1 := 42) (lo1 := [(3, .int (nI (N % 1000 % 300))), (2, .int (nI (N / 1000))), (0, .ref 0), (1, .int (nI N))]) (st1 := [.int (nI N)]) (w1 := (WM MA (upd (upd MS 11 (-1)) 12 3) Mh v)) (by decide +kernel) rfl ?_
  refine M.if_lt (off := 38) (tgt := 80) (nx := 45) (by decide +kernel) (fun z42 => by exfalso; exact nI_pos (by omega) z42) (fun z42 => ?_)
  refine M.blk (is := [(.aload_n 0, 0, 0, 0), (.iload_n 2, 2, 0, 0)]) (pc1 := 47) (lo1 := [(3, .int (nI (N % 1000 % 300))), (2, .int (nI (N / 1000))), (0, .ref 0), (1, .int (nI N))]) (st1 := [.int (nI (N / 1000)), .ref 0]) (w1 := (WM MA (upd (upd MS 11 (-1)) 12 3) Mh v)) (by decide +kernel) rfl ?_
  refine M.callVi (as := [.int (nI (N / 1000))]) (st := []) (nx := 50) okX4_isCell lkX4_86 (m_isCell (MS := (upd (upd MS 11 (-1)) 12 3)) hgeo hms (nI (N / 1000))) (by decide +kernel) (by decide) rfl (Nat.le_of_ble_eq_true rfl) rfl (by decide) ?_
  refine M.if_eq (off := 30) (tgt := 80) (nx := 53) (by decide +kernel) (fun z50 => ?_) (fun z50 => ?_)
  · refine M.blk (is := [(.iconst 0, 0, 0, 0)]) (pc1 := 81) (lo1 := [(3, .int (nI (N % 1000 % 300))), (2, .int (nI (N / 1000))), (0, .ref 0), (1, .int (nI N))]) (st1 := [.int 0]) (w1 := (WM MA (upd (upd MS 11 (-1)) 12 3) Mh v)) (by decide +kernel) rfl ?_
    exact M.retz (nx := 82) (by decide +kernel) (by decide) ⟨_, rfl, fun i hi => by rw [pk_un (by omega), pk_un (by omega)], by rw [flt_no1 (fun h => by rcases hcs with ⟨_, e⟩ | ⟨e, _⟩; exact e _ h rfl; exact absurd (z50.symm.trans e) (by decide))]; rfl, fun h => by rw [flt_no1 (fun h => by rcases hcs with ⟨_, e⟩ | ⟨e, _⟩; exact e _ h rfl; exact absurd (z50.symm.trans e) (by decide))] at h; cases h⟩
  · have hk : N / 1000 < r * c := by
      rcases hcs with ⟨e, _⟩ | ⟨_, k, hk, e⟩
      · exact absurd e z50
      · rw [nI_inj (by omega) (by omega) e]; exact hk
    refine M.blk (is := [(.aload_n 0, 0, 0, 0), (.getfield 98, 4, 12, 0), (.iconst 2, 0, 0, 2)]) (pc1 := 58) (lo1 := [(3, .int (nI (N % 1000 % 300))), (2, .int (nI (N / 1000))), (0, .ref 0), (1, .int (nI N))]) (st1 := [.int 2, .int 3]) (w1 := (WM MA (upd (upd MS 11 (-1)) 12 3) Mh v)) (by decide +kernel) rfl ?_
    refine M.icmp_gt (off := 22) (tgt := 80) (nx := 61) (by decide +kernel) (fun _ => ?_) (fun h => absurd h (by decide))
    refine M.blk (is := [(.iconst 0, 0, 0, 0)]) (pc1 := 81) (lo1 := [(3, .int (nI (N % 1000 % 300))), (2, .int (nI (N / 1000))), (0, .ref 0), (1, .int (nI N))]) (st1 := [.int 0]) (w1 := (WM MA (upd (upd MS 11 (-1)) 12 3) Mh v)) (by decide +kernel) rfl ?_
    exact M.retz (nx := 82) (by decide +kernel) (by decide) ⟨_, rfl, fun i hi => by rw [pk_un (by omega), pk_un (by omega)], by rw [flt_no2 (by rw [hκ]; exact Nat.not_lt_zero _)]; rfl, fun h => by rw [flt_no2 (by rw [hκ]; exact Nat.not_lt_zero _)] at h; cases h⟩
theorem m_layNum {r c f h t : Nat} (hgeo : GeoOk r c f h t) (hms : MSok r c f h t MS) {N : Nat} (hN : N < 2147483648) : CC 3 mX4_layFault 0 0 [.ref 0, .int (nI N)] (WM MA MS Mh v) (fun r0 w1 => ∃ MT, w1 = WM MA MT Mh v ∧ (∀ i, ¬ (11 ≤ i ∧ i ≤ 16) → MT i = MS i) ∧ r0 = some (.int (b2i (fltN r c N))) ∧ (fltN r c N = true → FS (N / 1000) (N % 1000 / 300) (N % 1000 % 300) MT)) := by
  rcases (show N % 1000 / 300 = 0 ∨ N % 1000 / 300 = 1 ∨ N % 1000 / 300 = 2 ∨ N % 1000 / 300 = 3 by omega) with e | e | e | e
  · exact m_layNum0 hgeo hms hN e
  · exact m_layNum1 hgeo hms hN e
  · exact m_layNum2 hgeo hms hN e
  · exact m_layNum3 hgeo hms hN e
end MTHREE
