section MEIGHT
variable {MA : Nat → Nat → Int32} {MS : Nat → Int32} {Mh : Int64} {v : List Cl}
theorem m_foundNow {r c f h t : Nat} (hgeo : GeoOk r c f h t) (hms : MSok r c f h t MS) {sl : Nat} (hsl : sl ≤ 64) (h2 : MS 2 = nI sl) (hC : ∀ j, j < sl → sgnB (MA 3 j) = true) (h22 : MS 22 = 0) {k κ : Nat} (hk : k < r * c) (h3 : κ < 3) (hCa : CaOk r c (MA 3) sl (MA 24) (MA 25)) {i : Nat} (hi : i < 4) : CC 8 mX4_foundNow 0 0 [.ref 0, .int (nI k), .int (nI κ), .int (nI i)] (WM MA MS Mh v) (fun r0 w1 => ∃ A B MT, w1 = (WM (va_up (va_up MA 24 A) 25 B) MT Mh v) ∧ KP MS MT ∧ CaOk r c (MA 3) sl A B ∧ r0 = some (.int (fdF r c (MA 3) sl k κ (nI i)))) := by
  have h25 : r * c ≤ 25 := Nat.mul_le_mul hgeo.1.2 hgeo.2.1.2
  have h9a : 9 ≤ r * c := Nat.mul_le_mul hgeo.1.1 hgeo.2.1.1
  refine CC.of okX4_foundNow.1 (Nat.le_of_ble_eq_true rfl) (fun g M => ?_)
  show g 0 0 0 [(0, .ref 0), (1, .int (nI k)), (2, .int (nI κ)), (3, .int (nI i))] [] (WM MA MS Mh v)
  refine M.blk (is := [(.aload_n 0, 0, 0, 0), (.iload_n 1, 1, 0, 0), (.iload_n 2, 2, 0, 0)]) (pc1 := 3) (lo1 := [(0, .ref 0), (1, .int (nI k)), (2, .int (nI κ)), (3, .int (nI i))]) (st1 := [.int (nI κ), .int (nI k), .ref 0]) (w1 := (WM MA MS Mh v)) (by decide +kernel) rfl ?_
  refine M.callV (as := [.int (nI k), .int (nI κ)]) (st := []) (nx := 6) okX4_layFound lkX4_183 (m_layFound hgeo hms hsl h2 hC h22 hk h3 hCa) (by decide +kernel) (by decide) rfl (Nat.le_of_ble_eq_true rfl) rfl (by decide) ⟨by decide, by decide⟩ ?_
  intro r0 w1 hq
  obtain ⟨A, B, MT, rfl, hK, hCa2, hA, rfl⟩ := hq
  show g 0 0 6 [(0, .ref 0), (1, .int (nI k)), (2, .int (nI κ)), (3, .int (nI i))] [] (WM (va_up (va_up MA 24 A) 25 B) MT Mh v)
  refine M.blk (is := [(.aload_n 0, 0, 0, 0), (.getfield 33, 4, 25, 0), (.iconst 4, 0, 0, 4), (.iconst 3, 0, 0, 3), (.iload_n 1, 1, 0, 0), (.imul, 0, 0, 0), (.iload_n 2, 2, 0, 0), (.iadd, 0, 0, 0), (.imul, 0, 0, 0), (.iload_n 3, 3, 0, 0), (.iadd, 0, 0, 0)]) (pc1 := 19) (lo1 := [(0, .ref 0), (1, .int (nI k)), (2, .int (nI κ)), (3, .int (nI i))]) (st1 := [.int ((4 * ((3 * (nI k)) + (nI κ))) + (nI i)), .ref 5]) (w1 := (WM (va_up (va_up MA 24 A) 25 B) MT Mh v)) (by decide +kernel) rfl ?_
  refine M.ald (n := 300) (f := B) (j := 4 * (3 * k + κ) + i) (nx := 20) (by decide +kernel) rfl (by rw [at_ar, show (4 : Int32) = nI 4 from rfl, pk_mul, nI_add]) (by omega) (by decide) ?_
  exact M.reti (nx := 21) (by decide +kernel) ⟨A, B, MT, rfl, hK, hCa2, congrArg (fun x => some (Value.int x)) (hCa2 k κ hk h3 hA i hi)⟩
theorem m_found {r c f h t : Nat} (hgeo : GeoOk r c f h t) (hms : MSok r c f h t MS) {sl : Nat} (hsl : sl ≤ 64) (h2 : MS 2 = nI sl) (hC : ∀ j, j < sl → sgnB (MA 3 j) = true) (h22 : MS 22 = 0) (hCa : CaOk r c (MA 3) sl (MA 24) (MA 25)) (x z y : Int32) : CC 9 mX4_found 0 0 [.ref 0, .int x, .int z, .int y] (WM MA MS Mh v) (fun r0 w1 => (∃ A B MT, w1 = (WM (va_up (va_up MA 24 A) 25 B) MT Mh v) ∧ KP MS MT ∧ CaOk r c (MA 3) sl A B) ∧ (((∀ k κ, k < r * c → κ < 3 → ¬ (x = nI k ∧ z = nI κ)) ∧ r0 = some (.int (-1001))) ∨ (∃ k κ, k < r * c ∧ κ < 3 ∧ x = nI k ∧ z = nI κ ∧ outY y 3 ∧ r0 = some (.int (-1002))) ∨ (∃ k κ, k < r * c ∧ κ < 3 ∧ x = nI k ∧ z = nI κ ∧ ¬ outY y 3 ∧ r0 = some (.int (fdF r c (MA 3) sl k κ y))))) := by
  have h25 : r * c ≤ 25 := Nat.mul_le_mul hgeo.1.2 hgeo.2.1.2
  have h9a : 9 ≤ r * c := Nat.mul_le_mul hgeo.1.1 hgeo.2.1.1
  refine CC.of okX4_found.1 (Nat.le_of_ble_eq_true rfl) (fun g M => ?_)
  have hcs := wf_sl x (sl := r * c) (by omega)
  have hzs := wf_cases z (a := 0) (b := 2) (by decide) (by decide)
  have hys := wf_cases y (a := 0) (b := 3) (by decide) (by decide)
  have hsame : ∃ A B MT, (WM MA MS Mh v) = (WM (va_up (va_up MA 24 A) 25 B) MT Mh v) ∧ KP MS MT ∧ CaOk r c (MA 3) sl A B := ⟨MA 24, MA 25, MS, by rw [va_up_id (f := MA) (k := 24) rfl, va_up_id (f := MA) (k := 25) rfl], fun _ _ => rfl, hCa⟩
  show g 0 0 0 [(0, .ref 0), (1, .int x), (2, .int z), (3, .int y)] [] (WM MA MS Mh v)
  refine M.blk (is := [(.aload_n 0, 0, 0, 0), (.iload_n 1, 1, 0, 0)]) (pc1 := 2) (lo1 := [(0, .ref 0), (1, .int x), (2, .int z), (3, .int y)]) (st1 := [.int x, .ref 0]) (w1 := (WM MA MS Mh v)) (by decide +kernel) rfl ?_
  refine M.callVi (as := [.int x]) (st := []) (nx := 5) okX4_isCell lkX4_86 (m_isCell hgeo hms x) (by decide +kernel) (by decide) rfl (Nat.le_of_ble_eq_true rfl) rfl (by decide) ?_
  refine M.if_eq (off := 12) (tgt := 17) (nx := 8) (by decide +kernel) (fun z5 => ?_) (fun z5 => ?_)
  · refine M.blk (is := [(.sipush (-1001), 0, 0, (-1001))]) (pc1 := 20) (lo1 := [(0, .ref 0), (1, .int x), (2, .int z), (3, .int y)]) (st1 := [.int (-1001)]) (w1 := (WM MA MS Mh v)) (by decide +kernel) rfl ?_
    exact M.reti (nx := 21) (by decide +kernel) ⟨hsame, Or.inl ⟨fun k κ hk _ e => by rcases hcs with ⟨_, h⟩ | ⟨e2, _⟩; exact h k hk e.1; exact absurd (z5.symm.trans e2) (by decide), rfl⟩⟩
  · refine M.blk (is := [(.iload_n 2, 2, 0, 0), (.iconst 0, 0, 0, 0), (.iconst 2, 0, 0, 2)]) (pc1 := 11) (lo1 := [(0, .ref 0), (1, .int x), (2, .int z), (3, .int y)]) (st1 := [.int 2, .int 0, .int z]) (w1 := (WM MA MS Mh v)) (by decide +kernel) rfl ?_
    refine M.callSi (as := [.int z, .int 0, .int 2]) (st := []) (nx := 14) okX4_within lkX4_36 (s_within (WM MA MS Mh v) z 0 2) (by decide +kernel) (by decide) rfl (Nat.le_of_ble_eq_true rfl) ?_
    refine M.if_ne (off := 7) (tgt := 21) (nx := 17) (by decide +kernel) (fun z14 => ?_) (fun z14 => ?_)
    · obtain ⟨k, hk, rfl⟩ : ∃ k, k < r * c ∧ x = nI k := by
        rcases hcs with ⟨e, _⟩ | ⟨_, h⟩
        · exact absurd e z5
        · exact h
      obtain ⟨κ, h3, rfl⟩ : ∃ κ, κ < 3 ∧ z = nI κ := by
        rcases hzs with ⟨e, _⟩ | ⟨_, κ, _, h, e⟩
        · exact absurd e z14
        · exact ⟨κ, by omega, e⟩
      refine M.blk (is := [(.iload_n 3, 3, 0, 0), (.iconst 0, 0, 0, 0), (.iconst 3, 0, 0, 3)]) (pc1 := 24) (lo1 := [(0, .ref 0), (1, .int (nI k)), (2, .int (nI κ)), (3, .int y)]) (st1 := [.int 3, .int 0, .int y]) (w1 := (WM MA MS Mh v)) (by decide +kernel) rfl ?_
      refine M.callSi (as := [.int y, .int 0, .int 3]) (st := []) (nx := 27) okX4_within lkX4_36 (s_within (WM MA MS Mh v) y 0 3) (by decide +kernel) (by decide) rfl (Nat.le_of_ble_eq_true rfl) ?_
      refine M.if_eq (off := 13) (tgt := 40) (nx := 30) (by decide +kernel) (fun z27 => ?_) (fun z27 => ?_)
      · refine M.blk (is := [(.sipush (-1002), 0, 0, (-1002))]) (pc1 := 43) (lo1 := [(0, .ref 0), (1, .int (nI k)), (2, .int (nI κ)), (3, .int y)]) (st1 := [.int (-1002)]) (w1 := (WM MA MS Mh v)) (by decide +kernel) rfl ?_
        exact M.reti (nx := 44) (by decide +kernel) ⟨hsame, Or.inr (Or.inl ⟨k, κ, hk, h3, rfl, rfl, wf_out z27, rfl⟩)⟩
      · have hyo : ¬ outY y 3 := wf_in z27
        obtain ⟨i, hi, rfl⟩ : ∃ i, i < 4 ∧ y = nI i := by
          rcases hys with ⟨e, _⟩ | ⟨_, i, _, h, e⟩
          · exact absurd e z27
          · exact ⟨i, by omega, e⟩
        refine M.blk (is := [(.aload_n 0, 0, 0, 0), (.iload_n 1, 1, 0, 0), (.iload_n 2, 2, 0, 0), (.iload_n 3, 3, 0, 0)]) (pc1 := 34) (lo1 := [(0, .ref 0), (1, .int (nI k)), (2, .int (nI κ)), (3, .int (nI i))]) (st1 := [.int (nI i), .int (nI κ), .int (nI k), .ref 0]) (w1 := (WM MA MS Mh v)) (by decide +kernel) rfl ?_
        refine M.callV (as := [.int (nI k), .int (nI κ), .int (nI i)]) (st := []) (nx := 37) okX4_foundNow lkX4_186 (m_foundNow hgeo hms hsl h2 hC h22 hk h3 hCa hi) (by decide +kernel) (by decide) rfl (Nat.le_of_ble_eq_true rfl) rfl (by decide) ⟨by decide, by decide⟩ ?_
        intro r0 w1 hq
        obtain ⟨A, B, MT, rfl, hK, hCa2, rfl⟩ := hq
        show g 0 0 37 [(0, .ref 0), (1, .int (nI k)), (2, .int (nI κ)), (3, .int (nI i))] [.int (fdF r c (MA 3) sl k κ (nI i))] (WM (va_up (va_up MA 24 A) 25 B) MT Mh v)
        refine M.blk (is := [(.goto 6, 43, 0, 0)]) (pc1 := 43) (lo1 := [(0, .ref 0), (1, .int (nI k)), (2, .int (nI κ)), (3, .int (nI i))]) (st1 := [.int (fdF r c (MA 3) sl k κ (nI i))]) (w1 := (WM (va_up (va_up MA 24 A) 25 B) MT Mh v)) (by decide +kernel) rfl ?_
        exact M.reti (nx := 44) (by decide +kernel) ⟨⟨A, B, MT, rfl, hK, hCa2⟩, Or.inr (Or.inr ⟨k, κ, hk, h3, rfl, rfl, hyo, rfl⟩)⟩
    · refine M.blk (is := [(.sipush (-1001), 0, 0, (-1001))]) (pc1 := 20) (lo1 := [(0, .ref 0), (1, .int x), (2, .int z), (3, .int y)]) (st1 := [.int (-1001)]) (w1 := (WM MA MS Mh v)) (by decide +kernel) rfl ?_
      exact M.reti (nx := 21) (by decide +kernel) ⟨hsame, Or.inl ⟨fun k κ _ h3 e => by rcases hzs with ⟨_, h⟩ | ⟨e2, _⟩; exact h κ (by omega) (by omega) e.2; exact absurd (z14.symm.trans e2) (by decide), rfl⟩⟩
def zrF (f : Nat → Int32) (j : Nat) : Nat → Int32 := fun i => if i < j then 0 else f i
theorem zr_0 (f : Nat → Int32) : zrF f 0 = f := by funext i; unfold zrF; rw [if_neg (by omega)]
theorem zr_s (f : Nat → Int32) (j : Nat) : upd (zrF f j) j 0 = zrF f (j + 1) := by
  funext i
  by_cases e : i = j
  · subst e; rw [pk_us]; unfold zrF; rw [if_pos (by omega)]
  · rw [pk_un e]; unfold zrF
    simp only [show (i < j + 1) = (i < j) by apply propext; omega]
theorem m_layAllSeen {r c f h t : Nat} (hgeo : GeoOk r c f h t) (hms : MSok r c f h t MS) {sl : Nat} (hsl : sl ≤ 64) (h2 : MS 2 = nI sl) (hC : ∀ j, j < sl → sgnB (MA 3 j) = true) (h22 : MS 22 = 0) : CC 7 mX4_layAllSeen 0 0 [.ref 0] (WM MA MS Mh v) (fun r0 w1 => ∃ A MT, w1 = (WM (va_up MA 23 A) MT Mh v) ∧ KP MS MT ∧ SN r c (MA 3) A sl ∧ r0 = none) := by
  have h25 : r * c ≤ 25 := Nat.mul_le_mul hgeo.1.2 hgeo.2.1.2
  have h9a : 9 ≤ r * c := Nat.mul_le_mul hgeo.1.1 hgeo.2.1.1
  refine CC.of okX4_layAllSeen.1 (Nat.le_of_ble_eq_true rfl) (fun g M => ?_)
  have lp : ∀ m j, j + m = 25 → g 0 0 2 [(0, .ref 0), (1, .int (nI j))] [] (WM (va_up MA 23 (zrF (MA 23) j)) MS Mh v) := by
    intro m
    induction m with
    | zero =>
      intro j hj
      have ej : j = 25 := by omega
      subst ej
      refine M.blk (is := [(.iload_n 1, 1, 0, 0), (.bipush 25, 0, 0, 25)]) (pc1 := 5) (lo1 := [(0, .ref 0), (1, .int (nI 25))]) (st1 := [.int 25, .int (nI 25)]) (w1 := (WM (va_up MA 23 (zrF (MA 23) 25)) MS Mh v)) (by decide +kernel) rfl ?_
      refine M.icmp_ge (off := 16) (tgt := 21) (nx := 8) (by decide +kernel) (fun z5 => ?_) (fun z5 => by exfalso; exact z5 (by decide))
      refine M.blk (is := [(.aload_n 0, 0, 0, 0), (.iconst (-1), 0, 0, (-1))]) (pc1 := 23) (lo1 := [(0, .ref 0), (1, .int (nI 25))]) (st1 := [.int (-1), .ref 0]) (w1 := (WM (va_up MA 23 (zrF (MA 23) 25)) MS Mh v)) (by decide +kernel) rfl ?_
      refine M.callVi (as := [.int (-1)]) (st := []) (nx := 26) okX4_layFault lkX4_177 (m_layNone (MA := (va_up MA 23 (zrF (MA 23) 25))) (MS := MS)) (by decide +kernel) (by decide) rfl (Nat.le_of_ble_eq_true rfl) rfl (by decide) ?_
      show g 0 0 26 [(0, .ref 0), (1, .int (nI 25))] [.int 1] (WM (va_up MA 23 (zrF (MA 23) 25)) (upd MS 11 (-1)) Mh v)
      refine M.blk (is := [(.pop, 0, 0, 0), (.aload_n 0, 0, 0, 0), (.iconst 1, 0, 0, 1)]) (pc1 := 29) (lo1 := [(0, .ref 0), (1, .int (nI 25))]) (st1 := [.int 1, .ref 0]) (w1 := (WM (va_up MA 23 (zrF (MA 23) 25)) (upd MS 11 (-1)) Mh v)) (by decide +kernel) rfl ?_
      refine M.putz (idx := 167) (a := 4) (b := 22) (nx := 32) (by decide +kernel) rfl (Nat.le_of_ble_eq_true rfl) (by decide) ?_
      show g 0 0 32 [(0, .ref 0), (1, .int (nI 25))] [] (WM (va_up MA 23 (zrF (MA 23) 25)) (upd (upd MS 11 (-1)) 22 1) Mh v)
      refine M.blk (is := [(.aload_n 0, 0, 0, 0)]) (pc1 := 33) (lo1 := [(0, .ref 0), (1, .int (nI 25))]) (st1 := [.ref 0]) (w1 := (WM (va_up MA 23 (zrF (MA 23) 25)) (upd (upd MS 11 (-1)) 22 1) Mh v)) (by decide +kernel) rfl ?_
      refine M.callV (as := []) (st := []) (nx := 36) okX4_layRun lkX4_171 (m_layRunS (MA := (va_up MA 23 (zrF (MA 23) 25))) (MS := (upd (upd MS 11 (-1)) 22 1)) hgeo hms hsl h2 hC rfl rfl (fun i hi => if_pos (by omega))) (by decide +kernel) (by decide) rfl (Nat.le_of_ble_eq_true rfl) rfl (by decide) ⟨by decide, by decide⟩ ?_
      intro r0 w1 hq
      obtain ⟨MT, A, rfl, hL, hA, rfl⟩ := hq
      show g 0 0 36 [(0, .ref 0), (1, .int (nI 25))] [] (WM (va_up MA 23 A) MT Mh v)
      refine M.blk (is := [(.aload_n 0, 0, 0, 0), (.iconst 0, 0, 0, 0)]) (pc1 := 38) (lo1 := [(0, .ref 0), (1, .int (nI 25))]) (st1 := [.int 0, .ref 0]) (w1 := (WM (va_up MA 23 A) MT Mh v)) (by decide +kernel) rfl ?_
      refine M.putz (idx := 167) (a := 4) (b := 22) (nx := 41) (by decide +kernel) rfl (Nat.le_of_ble_eq_true rfl) (by decide) ?_
      show g 0 0 41 [(0, .ref 0), (1, .int (nI 25))] [] (WM (va_up MA 23 A) (upd MT 22 0) Mh v)
      exact M.retv (nx := 42) (by decide +kernel) ⟨A, upd MT 22 0, rfl, fun i hi => by by_cases e : i = 22; rw [e, pk_us, h22]; rw [pk_un e, hL.1 i (by omega), pk_un e, pk_un (by omega)], hA, rfl⟩
    | succ m ih =>
      intro j hj
      refine M.blk (is := [(.iload_n 1, 1, 0, 0), (.bipush 25, 0, 0, 25)]) (pc1 := 5) (lo1 := [(0, .ref 0), (1, .int (nI j))]) (st1 := [.int 25, .int (nI j)]) (w1 := (WM (va_up MA 23 (zrF (MA 23) j)) MS Mh v)) (by decide +kernel) rfl ?_
      refine M.icmp_ge (off := 16) (tgt := 21) (nx := 8) (by decide +kernel) (fun z5 => by exfalso; exact nI_ge (a := j) (b := 25) (by omega) (by decide) z5) (fun z5 => ?_)
      refine M.blk (is := [(.aload_n 0, 0, 0, 0), (.getfield 26, 4, 23, 0), (.iload_n 1, 1, 0, 0), (.iconst 0, 0, 0, 0)]) (pc1 := 14) (lo1 := [(0, .ref 0), (1, .int (nI j))]) (st1 := [.int 0, .int (nI j), .ref 3]) (w1 := (WM (va_up MA 23 (zrF (MA 23) j)) MS Mh v)) (by decide +kernel) rfl ?_
      refine M.ast (n := 25) (f := zrF (MA 23) j) (j := j) (nx := 15) (by decide +kernel) rfl rfl (by omega) (by decide) ?_
      show g 0 0 15 [(0, .ref 0), (1, .int (nI j))] [] (WM (va_up MA 23 (upd (zrF (MA 23) j) j 0)) MS Mh v)
      refine M.blk (is := [(.iinc 1 1, 1, 0, 1), (.goto (-16), 2, 0, 0)]) (pc1 := 2) (lo1 := [(1, .int ((nI j) + 1)), (0, .ref 0)]) (st1 := []) (w1 := (WM (va_up MA 23 (upd (zrF (MA 23) j) j 0)) MS Mh v)) (by decide +kernel) rfl ?_
      refine M.lsub [1, 0] (lo1 := [(0, .ref 0), (1, .int ((nI j) + 1))]) rfl ?_
      rw [nI_1, zr_s]
      exact ih (j + 1) (by omega)
  show g 0 0 0 [(0, .ref 0)] [] (WM MA MS Mh v)
  refine M.blk (is := [(.iconst 0, 0, 0, 0), (.istore_n 1, 1, 0, 0)]) (pc1 := 2) (lo1 := [(1, .int 0), (0, .ref 0)]) (st1 := []) (w1 := (WM MA MS Mh v)) (by decide +kernel) rfl ?_
  refine M.lsub [1, 0] (lo1 := [(0, .ref 0), (1, .int 0)]) rfl ?_
  have e := lp 25 0 (by omega)
  rw [zr_0, va_up_id (f := MA) (k := 23) rfl] at e
  exact e
theorem m_seen {r c f h t : Nat} (hgeo : GeoOk r c f h t) (hms : MSok r c f h t MS) {sl : Nat} (hsl : sl ≤ 64) (h2 : MS 2 = nI sl) (hC : ∀ j, j < sl → sgnB (MA 3 j) = true) (h22 : MS 22 = 0) (x : Int32) : CC 8 mX4_seen 0 0 [.ref 0, .int x] (WM MA MS Mh v) (fun r0 w1 => (∃ A MT, w1 = (WM (va_up MA 23 A) MT Mh v) ∧ KP MS MT) ∧ (((∀ k, k < r * c → ¬ x = nI k) ∧ r0 = some (.int (-1001))) ∨ (∃ k, k < r * c ∧ x = nI k ∧ r0 = some (.int (smS 3 0 (tauG r c k) (MA 3) sl).2.2.1)))) := by
  have h25 : r * c ≤ 25 := Nat.mul_le_mul hgeo.1.2 hgeo.2.1.2
  have h9a : 9 ≤ r * c := Nat.mul_le_mul hgeo.1.1 hgeo.2.1.1
  refine CC.of okX4_seen.1 (Nat.le_of_ble_eq_true rfl) (fun g M => ?_)
  have hcs := wf_sl x (sl := r * c) (by omega)
  show g 0 0 0 [(0, .ref 0), (1, .int x)] [] (WM MA MS Mh v)
  refine M.blk (is := [(.aload_n 0, 0, 0, 0), (.iload_n 1, 1, 0, 0)]) (pc1 := 2) (lo1 := [(0, .ref 0), (1, .int x)]) (st1 := [.int x, .ref 0]) (w1 := (WM MA MS Mh v)) (by decide +kernel) rfl ?_
  refine M.callVi (as := [.int x]) (st := []) (nx := 5) okX4_isCell lkX4_86 (m_isCell hgeo hms x) (by decide +kernel) (by decide) rfl (Nat.le_of_ble_eq_true rfl) rfl (by decide) ?_
  refine M.if_ne (off := 7) (tgt := 12) (nx := 8) (by decide +kernel) (fun z5 => ?_) (fun z5 => ?_)
  · obtain ⟨k, hk, rfl⟩ : ∃ k, k < r * c ∧ x = nI k := by
      rcases hcs with ⟨e, _⟩ | ⟨_, h⟩
      · exact absurd e z5
      · exact h
    refine M.blk (is := [(.aload_n 0, 0, 0, 0)]) (pc1 := 13) (lo1 := [(0, .ref 0), (1, .int (nI k))]) (st1 := [.ref 0]) (w1 := (WM MA MS Mh v)) (by decide +kernel) rfl ?_
    refine M.callV (as := []) (st := []) (nx := 16) okX4_layAllSeen lkX4_190 (m_layAllSeen hgeo hms hsl h2 hC h22) (by decide +kernel) (by decide) rfl (Nat.le_of_ble_eq_true rfl) rfl (by decide) ⟨by decide, by decide⟩ ?_
    intro r0 w1 hq
    obtain ⟨A, MT, rfl, hK, hA, rfl⟩ := hq
    show g 0 0 16 [(0, .ref 0), (1, .int (nI k))] [] (WM (va_up MA 23 A) MT Mh v)
    refine M.blk (is := [(.aload_n 0, 0, 0, 0), (.getfield 26, 4, 23, 0), (.iload_n 1, 1, 0, 0)]) (pc1 := 21) (lo1 := [(0, .ref 0), (1, .int (nI k))]) (st1 := [.int (nI k), .ref 3]) (w1 := (WM (va_up MA 23 A) MT Mh v)) (by decide +kernel) rfl ?_
    refine M.ald (n := 25) (f := A) (j := k) (nx := 22) (by decide +kernel) rfl rfl (by omega) (by decide) ?_
    exact M.reti (nx := 23) (by decide +kernel) ⟨⟨A, MT, rfl, hK⟩, Or.inr ⟨k, hk, rfl, congrArg (fun x => some (Value.int x)) (hA k hk)⟩⟩
  · refine M.blk (is := [(.sipush (-1001), 0, 0, (-1001))]) (pc1 := 11) (lo1 := [(0, .ref 0), (1, .int x)]) (st1 := [.int (-1001)]) (w1 := (WM MA MS Mh v)) (by decide +kernel) rfl ?_
    exact M.reti (nx := 12) (by decide +kernel) ⟨⟨MA 23, MS, by rw [va_up_id (f := MA) (k := 23) rfl], fun _ _ => rfl⟩, Or.inl ⟨by rcases hcs with ⟨_, h⟩ | ⟨e, _⟩; exact h; exact absurd (z5.symm.trans e) (by decide), rfl⟩⟩
theorem on_mk : ∀ (r c : Fin 6) (t : Fin 5), 3 ≤ r.val → 3 ≤ c.val → onA (nI (mkT c.val t.val (r.val * c.val))) 25 = nI (cnT c.val t.val (r.val * c.val)) := by decide +kernel
theorem fig_97 {s : Int32} (h : 97 ≤ s) : figF s = 0 := by
  unfold figF
  rw [Int32.le_iff_toInt_le] at h
  have e1 : (97 : Int32).toInt = 97 := by decide
  have e2 : (53 : Int32).toInt = 53 := by decide
  have e3 : (48 : Int32).toInt = 48 := by decide
  rw [if_neg (by rw [Int32.lt_iff_toInt_lt]; omega), if_pos (by rw [Int32.le_iff_toInt_le]; omega)]
theorem fig_n97 {s : Int32} (hs : sgnB s = true) (h : ¬ 97 ≤ s) : ¬ figF s = 0 := by
  by_cases h4 : s = 114
  · rw [h4] at h; exact absurd (by decide) h
  · rcases sg_cases hs h4 with e | e | e
    · rw [e] at h; exact absurd (by decide) h
    · rw [e] at h; exact absurd (by decide) h
    · exact e.1
theorem m_ops {r c f h t : Nat} (hgeo : GeoOk r c f h t) (hms : MSok r c f h t MS) {sl : Nat} (hsl : sl ≤ 64) (h2 : MS 2 = nI sl) (hC : ∀ j, j < sl → sgnB (MA 3 j) = true) : CC 2 mX4_ops 0 0 [.ref 0] (WM MA MS Mh v) (Rt (nI (opN r c (MA 3) sl)) (WM MA MS Mh v)) := by
  have h25 : r * c ≤ 25 := Nat.mul_le_mul hgeo.1.2 hgeo.2.1.2
  have h9a : 9 ≤ r * c := Nat.mul_le_mul hgeo.1.1 hgeo.2.1.1
  refine CC.of okX4_ops.1 (Nat.le_of_ble_eq_true rfl) (fun g M => ?_)
  have lp : ∀ m j, j + m = sl → g 0 0 4 [(0, .ref 0), (1, .int (nI (opN r c (MA 3) j))), (2, .int (nI j))] [] (WM MA MS Mh v) := by
    intro m
    induction m with
    | zero =>
      intro j hj
      have ej : j = sl := by omega
      subst ej
      refine M.blk (is := [(.iload_n 2, 2, 0, 0), (.aload_n 0, 0, 0, 0), (.getfield 51, 4, 2, 0)]) (pc1 := 9) (lo1 := [(0, .ref 0), (1, .int (nI (opN r c (MA 3) j))), (2, .int (nI j))]) (st1 := [.int (MS 2), .int (nI j)]) (w1 := (WM MA MS Mh v)) (by decide +kernel) rfl ?_
      rw [h2]
      refine M.icmp_ge (off := 46) (tgt := 55) (nx := 12) (by decide +kernel) (fun z9 => ?_) (fun z9 => by exfalso; exact z9 (nI_le (Nat.le_refl _) (by omega)))
      refine M.blk (is := [(.iload_n 1, 1, 0, 0)]) (pc1 := 56) (lo1 := [(0, .ref 0), (1, .int (nI (opN r c (MA 3) j))), (2, .int (nI j))]) (st1 := [.int (nI (opN r c (MA 3) j))]) (w1 := (WM MA MS Mh v)) (by decide +kernel) rfl ?_
      exact M.reti (nx := 57) (by decide +kernel) ⟨rfl, rfl⟩
    | succ m ih =>
      intro j hj
      have hs := hC j (by omega)
      refine M.blk (is := [(.iload_n 2, 2, 0, 0), (.aload_n 0, 0, 0, 0), (.getfield 51, 4, 2, 0)]) (pc1 := 9) (lo1 := [(0, .ref 0), (1, .int (nI (opN r c (MA 3) j))), (2, .int (nI j))]) (st1 := [.int (MS 2), .int (nI j)]) (w1 := (WM MA MS Mh v)) (by decide +kernel) rfl ?_
      rw [h2]
      refine M.icmp_ge (off := 46) (tgt := 55) (nx := 12) (by decide +kernel) (fun z9 => by exfalso; exact nI_ge (show j < sl by omega) (by omega) z9) (fun z9 => ?_)
      refine M.blk (is := [(.iload_n 1, 1, 0, 0), (.aload_n 0, 0, 0, 0), (.getfield 13, 4, 3, 0), (.iload_n 2, 2, 0, 0)]) (pc1 := 18) (lo1 := [(0, .ref 0), (1, .int (nI (opN r c (MA 3) j))), (2, .int (nI j))]) (st1 := [.int (nI j), .ref 2, .int (nI (opN r c (MA 3) j))]) (w1 := (WM MA MS Mh v)) (by decide +kernel) rfl ?_
      refine M.ald (n := 64) (f := MA 3) (j := j) (nx := 19) (by decide +kernel) rfl rfl (by omega) (by decide) ?_
      refine M.blk (is := [(.bipush 97, 0, 0, 97)]) (pc1 := 21) (lo1 := [(0, .ref 0), (1, .int (nI (opN r c (MA 3) j))), (2, .int (nI j))]) (st1 := [.int 97, .int ((MA 3) j), .int (nI (opN r c (MA 3) j))]) (w1 := (WM MA MS Mh v)) (by decide +kernel) rfl ?_
      have j21 : ∀ b21 : Int32, b21 = (if 97 ≤ (MA 3) j then (nI (r * c) : Int32) else onA (nI (mkT c (figT (MA 3 j)) (r * c))) 25) → g 0 0 47 [(0, .ref 0), (1, .int (nI (opN r c (MA 3) j))), (2, .int (nI j))] [.int b21, .int (nI (opN r c (MA 3) j))] (WM MA MS Mh v) := by
        intro b21 hb21
        refine M.blk (is := [(.iadd, 0, 0, 0), (.istore_n 1, 1, 0, 0), (.iinc 2 1, 2, 0, 1), (.goto (-48), 4, 0, 0)]) (pc1 := 4) (lo1 := [(2, .int ((nI j) + 1)), (1, .int ((nI (opN r c (MA 3) j)) + b21)), (0, .ref 0)]) (st1 := []) (w1 := (WM MA MS Mh v)) (by decide +kernel) rfl ?_
        refine M.lsub [2, 1, 0] (lo1 := [(0, .ref 0), (1, .int ((nI (opN r c (MA 3) j)) + b21)), (2, .int ((nI j) + 1))]) rfl ?_
        rw [nI_1]
        have eo : nI (opN r c (MA 3) j) + b21 = nI (opN r c (MA 3) (j + 1)) := by
          rw [hb21]
          show _ = nI (opN r c (MA 3) j + (if figF (MA 3 j) = 0 then r * c else cnT c (figT (MA 3 j)) (r * c)))
          by_cases e : 97 ≤ MA 3 j
          · rw [if_pos e, if_pos (fig_97 e), nI_add]
          · rw [if_neg e, if_neg (fig_n97 hs e), on_mk ⟨r, by have := hgeo.1.2; omega⟩ ⟨c, by have := hgeo.2.1.2; omega⟩ ⟨figT (MA 3 j), (fig_idx (fig_n97 hs e)).2⟩ hgeo.1.1 hgeo.2.1.1, nI_add]
        rw [eo]
        exact ih (j + 1) (by omega)
      refine M.icmp_ge (off := 22) (tgt := 43) (nx := 24) (by decide +kernel) (fun z21 => ?_) (fun z21 => ?_)
      · refine M.blk (is := [(.aload_n 0, 0, 0, 0)]) (pc1 := 44) (lo1 := [(0, .ref 0), (1, .int (nI (opN r c (MA 3) j))), (2, .int (nI j))]) (st1 := [.ref 0, .int (nI (opN r c (MA 3) j))]) (w1 := (WM MA MS Mh v)) (by decide +kernel) rfl ?_
        refine M.callVi (as := []) (st := [.int (nI (opN r c (MA 3) j))]) (nx := 47) okX4_cells lkX4_57 (m_cells (MS := MS) hms.1 hms.2.1) (by decide +kernel) (by decide) rfl (Nat.le_of_ble_eq_true rfl) rfl (by decide) ?_
        exact j21 _ (if_pos z21).symm
      · refine M.blk (is := [(.aload_n 0, 0, 0, 0), (.aload_n 0, 0, 0, 0), (.getfield 13, 4, 3, 0), (.iload_n 2, 2, 0, 0)]) (pc1 := 30) (lo1 := [(0, .ref 0), (1, .int (nI (opN r c (MA 3) j))), (2, .int (nI j))]) (st1 := [.int (nI j), .ref 2, .ref 0, .int (nI (opN r c (MA 3) j))]) (w1 := (WM MA MS Mh v)) (by decide +kernel) rfl ?_
        refine M.ald (n := 64) (f := MA 3) (j := j) (nx := 31) (by decide +kernel) rfl rfl (by omega) (by decide) ?_
        refine M.blk (is := [(.bipush 48, 0, 0, 48), (.isub, 0, 0, 0)]) (pc1 := 34) (lo1 := [(0, .ref 0), (1, .int (nI (opN r c (MA 3) j))), (2, .int (nI j))]) (st1 := [.int (((MA 3) j) - 48), .ref 0, .int (nI (opN r c (MA 3) j))]) (w1 := (WM MA MS Mh v)) (by decide +kernel) rfl ?_
        rw [(fig_idx (fig_n97 hs z21)).1]
        refine M.callVi (as := [.int (nI (figT (MA 3 j)))]) (st := [.int (nI (opN r c (MA 3) j))]) (nx := 37) okX4_ofType lkX4_161 (m_ofType hgeo hms (x := figT (MA 3 j)) (fig_idx (fig_n97 hs z21)).2) (by decide +kernel) (by decide) rfl (Nat.le_of_ble_eq_true rfl) rfl (by decide) ?_
        refine M.callSi (as := [.int (nI (mkT c (figT (MA 3 j)) (r * c)))]) (st := [.int (nI (opN r c (MA 3) j))]) (nx := 40) okX4_ones lkX4_174 (s_ones (WM MA MS Mh v) (nI (mkT c (figT (MA 3 j)) (r * c)))) (by decide +kernel) (by decide) rfl (Nat.le_of_ble_eq_true rfl) ?_
        refine M.blk (is := [(.goto 7, 47, 0, 0)]) (pc1 := 47) (lo1 := [(0, .ref 0), (1, .int (nI (opN r c (MA 3) j))), (2, .int (nI j))]) (st1 := [.int (onA (nI (mkT c (figT (MA 3 j)) (r * c))) 25), .int (nI (opN r c (MA 3) j))]) (w1 := (WM MA MS Mh v)) (by decide +kernel) rfl ?_
        exact j21 _ (if_neg z21).symm
  show g 0 0 0 [(0, .ref 0)] [] (WM MA MS Mh v)
  refine M.blk (is := [(.iconst 0, 0, 0, 0), (.istore_n 1, 1, 0, 0), (.iconst 0, 0, 0, 0), (.istore_n 2, 2, 0, 0)]) (pc1 := 4) (lo1 := [(2, .int 0), (1, .int 0), (0, .ref 0)]) (st1 := []) (w1 := (WM MA MS Mh v)) (by decide +kernel) rfl ?_
  refine M.lsub [2, 1, 0] (lo1 := [(0, .ref 0), (1, .int 0), (2, .int 0)]) rfl ?_
  exact lp sl 0 (by omega)
theorem m_byBound {r c f h t : Nat} (hgeo : GeoOk r c f h t) (hms : MSok r c f h t MS) {sl : Nat} (hsl : sl ≤ 64) (h2 : MS 2 = nI sl) (hC : ∀ j, j < sl → sgnB (MA 3 j) = true) (x : Int32) : CC 3 mX4_byBound 0 0 [.ref 0, .int x] (WM MA MS Mh v) (Rt (nI ((if x = 0 then (opN r c (MA 3) sl) else (boN (r * c))) / Nat.gcd (boN (r * c)) (opN r c (MA 3) sl))) (WM MA MS Mh v)) := by
  have h25 : r * c ≤ 25 := Nat.mul_le_mul hgeo.1.2 hgeo.2.1.2
  have h9a : 9 ≤ r * c := Nat.mul_le_mul hgeo.1.1 hgeo.2.1.1
  have hol := opN_le h25 (MA 3) sl
  have hb1 : 0 < boN (r * c) := by unfold boN; have := Nat.mul_le_mul hgeo.1.1 hgeo.2.1.1; omega
  have hb2 : boN (r * c) < 2000 := by unfold boN; omega
  have hg1 : 0 < Nat.gcd (boN (r * c)) (opN r c (MA 3) sl) := Nat.gcd_pos_of_pos_left _ hb1
  have hg2 : Nat.gcd (boN (r * c)) (opN r c (MA 3) sl) < 2000 := Nat.lt_of_le_of_lt (Nat.gcd_le_left _ hb1) hb2
  refine CC.of okX4_byBound.1 (Nat.le_of_ble_eq_true rfl) (fun g M => ?_)
  show g 0 0 0 [(0, .ref 0), (1, .int x)] [] (WM MA MS Mh v)
  refine M.blk (is := [(.aload_n 0, 0, 0, 0)]) (pc1 := 1) (lo1 := [(0, .ref 0), (1, .int x)]) (st1 := [.ref 0]) (w1 := (WM MA MS Mh v)) (by decide +kernel) rfl ?_
  refine M.callVi (as := []) (st := []) (nx := 4) okX4_ops lkX4_193 (m_ops hgeo hms hsl h2 hC) (by decide +kernel) (by decide) rfl (Nat.le_of_ble_eq_true rfl) rfl (by decide) ?_
  refine M.blk (is := [(.istore_n 2, 2, 0, 0), (.bipush 33, 0, 0, 33), (.aload_n 0, 0, 0, 0)]) (pc1 := 8) (lo1 := [(2, .int (nI (opN r c (MA 3) sl))), (0, .ref 0), (1, .int x)]) (st1 := [.ref 0, .int 33]) (w1 := (WM MA MS Mh v)) (by decide +kernel) rfl ?_
  refine M.callVi (as := []) (st := [.int 33]) (nx := 11) okX4_cells lkX4_57 (m_cells (MS := MS) hms.1 hms.2.1) (by decide +kernel) (by decide) rfl (Nat.le_of_ble_eq_true rfl) rfl (by decide) ?_
  refine M.blk (is := [(.imul, 0, 0, 0), (.bipush 31, 0, 0, 31), (.aload_n 0, 0, 0, 0)]) (pc1 := 15) (lo1 := [(2, .int (nI (opN r c (MA 3) sl))), (0, .ref 0), (1, .int x)]) (st1 := [.ref 0, .int 31, .int (33 * (nI (r * c)))]) (w1 := (WM MA MS Mh v)) (by decide +kernel) rfl ?_
  refine M.callVi (as := []) (st := [.int 31, .int (33 * (nI (r * c)))]) (nx := 18) okX4_cells lkX4_57 (m_cells (MS := MS) hms.1 hms.2.1) (by decide +kernel) (by decide) rfl (Nat.le_of_ble_eq_true rfl) rfl (by decide) ?_
  refine M.blk (is := [(.iconst 5, 0, 0, 5)]) (pc1 := 19) (lo1 := [(2, .int (nI (opN r c (MA 3) sl))), (0, .ref 0), (1, .int x)]) (st1 := [.int 5, .int (nI (r * c)), .int 31, .int (33 * (nI (r * c)))]) (w1 := (WM MA MS Mh v)) (by decide +kernel) rfl ?_
  refine M.idv (nx := 20) (by decide +kernel) (by decide) ?_
  refine M.blk (is := [(.imul, 0, 0, 0), (.iadd, 0, 0, 0)]) (pc1 := 22) (lo1 := [(2, .int (nI (opN r c (MA 3) sl))), (0, .ref 0), (1, .int x)]) (st1 := [.int ((33 * (nI (r * c))) + (31 * ((nI (r * c)) / 5)))]) (w1 := (WM MA MS Mh v)) (by decide +kernel) rfl ?_
  rw [bo_nI h25]
  refine M.blk (is := [(.istore_n 3, 3, 0, 0), (.iload_n 1, 1, 0, 0)]) (pc1 := 24) (lo1 := [(3, .int (nI (boN (r * c)))), (2, .int (nI (opN r c (MA 3) sl))), (0, .ref 0), (1, .int x)]) (st1 := [.int x]) (w1 := (WM MA MS Mh v)) (by decide +kernel) rfl ?_
  refine M.if_ne (off := 7) (tgt := 31) (nx := 27) (by decide +kernel) (fun z24 => ?_) (fun z24 => ?_)
  · refine M.blk (is := [(.iload_n 3, 3, 0, 0), (.iload_n 3, 3, 0, 0), (.iload_n 2, 2, 0, 0)]) (pc1 := 34) (lo1 := [(3, .int (nI (boN (r * c)))), (2, .int (nI (opN r c (MA 3) sl))), (0, .ref 0), (1, .int x)]) (st1 := [.int (nI (opN r c (MA 3) sl)), .int (nI (boN (r * c))), .int (nI (boN (r * c)))]) (w1 := (WM MA MS Mh v)) (by decide +kernel) rfl ?_
    refine M.callSi (as := [.int (nI (boN (r * c))), .int (nI (opN r c (MA 3) sl))]) (st := [.int (nI (boN (r * c)))]) (nx := 37) okX4_common lkX4_66 (s_common (WM MA MS Mh v) (a := (boN (r * c))) (b := (opN r c (MA 3) sl)) (by omega) (by omega)) (by decide +kernel) (by decide) rfl (Nat.le_of_ble_eq_true rfl) ?_
    refine M.idv (nx := 38) (by decide +kernel) (nI_ne0 hg1 (by omega)) ?_
    exact M.reti (nx := 39) (by decide +kernel) ⟨by rw [if_neg z24, pk_div (by omega) hg1 (by omega)], rfl⟩
  · refine M.blk (is := [(.iload_n 2, 2, 0, 0), (.goto 4, 32, 0, 0), (.iload_n 3, 3, 0, 0), (.iload_n 2, 2, 0, 0)]) (pc1 := 34) (lo1 := [(3, .int (nI (boN (r * c)))), (2, .int (nI (opN r c (MA 3) sl))), (0, .ref 0), (1, .int x)]) (st1 := [.int (nI (opN r c (MA 3) sl)), .int (nI (boN (r * c))), .int (nI (opN r c (MA 3) sl))]) (w1 := (WM MA MS Mh v)) (by decide +kernel) rfl ?_
    refine M.callSi (as := [.int (nI (boN (r * c))), .int (nI (opN r c (MA 3) sl))]) (st := [.int (nI (opN r c (MA 3) sl))]) (nx := 37) okX4_common lkX4_66 (s_common (WM MA MS Mh v) (a := (boN (r * c))) (b := (opN r c (MA 3) sl)) (by omega) (by omega)) (by decide +kernel) (by decide) rfl (Nat.le_of_ble_eq_true rfl) ?_
    refine M.idv (nx := 38) (by decide +kernel) (nI_ne0 hg1 (by omega)) ?_
    exact M.reti (nx := 39) (by decide +kernel) ⟨by rw [if_pos z24, pk_div (by omega) hg1 (by omega)], rfl⟩
end MEIGHT
