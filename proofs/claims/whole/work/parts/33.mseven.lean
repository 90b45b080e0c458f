section MSEVEN
variable {MA : Nat → Nat → Int32} {MS : Nat → Int32} {Mh : Int64} {v : List Cl}
def CaOk (r c : Nat) (C : Nat → Int32) (sl : Nat) (A B : Nat → Int32) : Prop := ∀ k κ, k < r * c → κ < 3 → ¬ A (3 * k + κ) = 0 → ∀ i, i < 4 → B (4 * (3 * k + κ) + i) = fdF r c C sl k κ (nI i)
theorem pt_b {κ : Nat} (h3 : κ < 3) : (if ¬ nI κ = 2 then (32 : Int32) else 128) = nI (ptsN κ) := by
  rcases (show κ = 0 ∨ κ = 1 ∨ κ = 2 by omega) with rfl | rfl | rfl <;> decide
theorem n_ar (k κ j : Nat) : (1000 : Int32) * nI k + 300 * nI κ + nI j = nI (1000 * k + 300 * κ + j) := by
  rw [show (1000 : Int32) = nI 1000 from rfl, show (300 : Int32) = nI 300 from rfl, pk_mul, pk_mul, nI_add, nI_add]
theorem at_ar (k κ : Nat) : (3 : Int32) * nI k + nI κ = nI (3 * k + κ) := by rw [show (3 : Int32) = nI 3 from rfl, pk_mul, nI_add]
theorem n_parts {k κ j : Nat} (h3 : κ < 3) (hj : j < ptsN κ) : (1000 * k + 300 * κ + j) / 1000 = k ∧ (1000 * k + 300 * κ + j) % 1000 / 300 = κ ∧ (1000 * k + 300 * κ + j) % 1000 % 300 = j := by
  have hj2 : j < 128 := Nat.lt_of_lt_of_le hj (ptsN_le κ)
  rcases (show κ = 0 ∨ κ = 1 ∨ κ = 2 by omega) with rfl | rfl | rfl
  · exact ⟨by omega, by omega, by omega⟩
  · exact ⟨by omega, by omega, by omega⟩
  · exact ⟨by omega, by omega, by omega⟩
theorem flt_n {r c k κ j : Nat} (hk : k < r * c) (h3 : κ < 3) (hj : j < ptsN κ) : fltN r c (1000 * k + 300 * κ + j) = isPt κ j (thr r c k) := by
  obtain ⟨e1, e2, e3⟩ := n_parts (k := k) h3 hj
  unfold fltN
  rw [e1, e2, e3, decide_eq_true hk, Bool.true_and]
def LE (κ th : Nat) (Mf : Nat → Int32) (x : Int32) (j : Nat) (le : Int32) : Prop := (le = -1 ∧ lhS κ th Mf (ptsN κ - j) j = lhS κ th Mf (ptsN κ) 0) ∨ (∃ q, q < ptsN κ ∧ le = 1000 * x + 300 * nI κ + nI q ∧ lhS κ th Mf (ptsN κ) 0 = some q)
theorem le_end {κ th : Nat} {Mf : Nat → Int32} {x le : Int32} (h : LE κ th Mf x (ptsN κ) le) : le = lhI x κ (lhS κ th Mf (ptsN κ) 0) := by
  rcases h with ⟨e1, e2⟩ | ⟨q, _, e1, e2⟩
  · rw [← e2, Nat.sub_self]; exact e1
  · rw [e2]; exact e1
theorem le_no {κ th : Nat} {Mf : Nat → Int32} {x le : Int32} {j : Nat} (hj : j < ptsN κ) (h : LE κ th Mf x j le) (hn : ¬ (Mf j = 0 ∧ isPt κ j th = true)) : LE κ th Mf x (j + 1) le := by
  rcases h with ⟨e1, e2⟩ | h
  · refine Or.inl ⟨e1, ?_⟩
    rw [← e2, show ptsN κ - j = (ptsN κ - (j + 1)) + 1 by omega, lhS_succ, if_neg hn]
  · exact Or.inr h
theorem le_ne {κ th : Nat} {Mf : Nat → Int32} {x le : Int32} {j : Nat} (h : LE κ th Mf x j le) (hn : ¬ le = -1) : LE κ th Mf x (j + 1) le := by
  rcases h with ⟨e1, _⟩ | h
  · exact absurd e1 hn
  · exact Or.inr h
theorem le_yes {κ th : Nat} {Mf : Nat → Int32} {k j : Nat} {le : Int32} (hk : k < 25) (h3 : κ < 3) (hj : j < ptsN κ) (h : LE κ th Mf (nI k) j le) (hle : le = -1) (hy : Mf j = 0 ∧ isPt κ j th = true) : LE κ th Mf (nI k) (j + 1) (nI (1000 * k + 300 * κ + j)) := by
  have hP := ptsN_le κ
  rcases h with ⟨_, e2⟩ | ⟨q, hq, e1, _⟩
  · refine Or.inr ⟨j, hj, (n_ar k κ j).symm, ?_⟩
    rw [← e2, show ptsN κ - j = (ptsN κ - (j + 1)) + 1 by omega, lhS_succ, if_pos hy]
  · rw [n_ar, hle] at e1
    exact absurd e1.symm (nI_n1 (by omega))
theorem lt_go {κ th : Nat} {M F : Nat → Int32} {j : Nat} {m17 b : Int32} (hp : isPt κ j th = true) (h17 : m17 = if M j ≤ 0 then -1 else F j) (hge : (-1 : Int32) ≤ ltF κ th M F j) (hb : b = if m17 ≤ ltF κ th M F j then ltF κ th M F j else m17) : b = ltF κ th M F (j + 1) := by
  show b = (if 0 < M j ∧ isPt κ j th = true then (if ltF κ th M F j < F j then F j else ltF κ th M F j) else ltF κ th M F j)
  by_cases e : M j ≤ 0
  · rw [if_pos e] at h17
    rw [if_neg (fun hh => absurd e (Int32.not_le.mpr hh.1)), hb, h17, if_pos hge]
  · rw [if_neg e] at h17
    rw [if_pos ⟨Int32.not_le.mp e, hp⟩, hb, h17]
    by_cases e2 : F j ≤ ltF κ th M F j
    · rw [if_pos e2, if_neg (Int32.not_lt.mpr e2)]
    · rw [if_neg e2, if_pos (Int32.not_le.mp e2)]
theorem hm_go {κ th : Nat} {M : Nat → Int32} {j : Nat} {m20 b : Int32} (hp : isPt κ j th = true) (h20 : m20 = M j) (hb : b = if m20 ≤ 0 then (0 : Int32) else 1) : nI (hmM κ th M j) + b = nI (hmM κ th M (j + 1)) := by
  show _ = nI (hmM κ th M j + (if 0 < M j ∧ isPt κ j th = true then 1 else 0))
  rw [hb, h20]
  by_cases e : M j ≤ 0
  · rw [if_pos e, if_neg (fun hh => absurd e (Int32.not_le.mpr hh.1)), show (0 : Int32) = nI 0 from rfl, nI_add]
  · rw [if_neg e, if_pos ⟨Int32.not_le.mp e, hp⟩, nI_1]
theorem hc_t {κ th j : Nat} (hp : isPt κ j th = true) : hmC κ th (j + 1) = hmC κ th j + 1 := by
  show hmC κ th j + (if isPt κ j th = true then 1 else 0) = _
  rw [if_pos hp]
theorem hc_f {κ th j : Nat} {M F : Nat → Int32} (hp : ¬ isPt κ j th = true) : hmC κ th (j + 1) = hmC κ th j ∧ hmM κ th M (j + 1) = hmM κ th M j ∧ ltF κ th M F (j + 1) = ltF κ th M F j := by
  refine ⟨?_, ?_, ?_⟩
  · show hmC κ th j + (if isPt κ j th = true then 1 else 0) = _
    rw [if_neg hp]; rfl
  · show hmM κ th M j + (if 0 < M j ∧ isPt κ j th = true then 1 else 0) = _
    rw [if_neg (fun hh => hp hh.2)]; rfl
  · show (if 0 < M j ∧ isPt κ j th = true then (if ltF κ th M F j < F j then F j else ltF κ th M F j) else ltF κ th M F j) = _
    rw [if_neg (fun hh => hp hh.2)]
theorem fd_y (r c : Nat) (C : Nat → Int32) (sl k κ : Nat) : fdF r c C sl k κ (nI 0) = nI (hmC κ (thr r c k) (ptsN κ)) ∧ fdF r c C sl k κ (nI 1) = nI (hmM κ (thr r c k) (smM κ (tauG r c k) C sl) (ptsN κ)) ∧ fdF r c C sl k κ (nI 2) = lhI (nI k) κ (lhS κ (thr r c k) (smM κ (tauG r c k) C sl) (ptsN κ) 0) ∧ fdF r c C sl k κ (nI 3) = ltF κ (thr r c k) (smM κ (tauG r c k) C sl) (smF κ (tauG r c k) C sl) (ptsN κ) :=
  ⟨if_pos rfl, (if_neg (by decide)).trans (if_pos rfl), (if_neg (by decide)).trans ((if_neg (by decide)).trans (if_pos rfl)), (if_neg (by decide)).trans ((if_neg (by decide)).trans (if_neg (by decide)))⟩
theorem ca_put {r c : Nat} {C : Nat → Int32} {sl : Nat} {A B : Nat → Int32} (h : CaOk r c C sl A B) {k κ : Nat} (h3 : κ < 3) {x0 x1 x2 x3 : Int32} (e0 : x0 = fdF r c C sl k κ (nI 0)) (e1 : x1 = fdF r c C sl k κ (nI 1)) (e2 : x2 = fdF r c C sl k κ (nI 2)) (e3 : x3 = fdF r c C sl k κ (nI 3)) : CaOk r c C sl (upd A (3 * k + κ) 1) (upd (upd (upd (upd B (4 * (3 * k + κ)) x0) (4 * (3 * k + κ) + 1) x1) (4 * (3 * k + κ) + 2) x2) (4 * (3 * k + κ) + 3) x3) := by
  intro k' κ' hk' h3' ha i hi
  by_cases e : 3 * k' + κ' = 3 * k + κ
  · have ek : k' = k := by omega
    have eκ : κ' = κ := by omega
    subst ek; subst eκ
    rcases (show i = 0 ∨ i = 1 ∨ i = 2 ∨ i = 3 by omega) with rfl | rfl | rfl | rfl
    · rw [pk_un (by omega), pk_un (by omega), pk_un (by omega), Nat.add_zero, pk_us, e0]
    · rw [pk_un (by omega), pk_un (by omega), pk_us, e1]
    · rw [pk_un (by omega), pk_us, e2]
    · rw [pk_us, e3]
  · rw [pk_un (by omega)] at ha
    rw [pk_un (by omega), pk_un (by omega), pk_un (by omega), pk_un (by omega)]
    exact h k' κ' hk' h3' ha i hi
theorem m_layFound {r c f h t : Nat} (hgeo : GeoOk r c f h t) (hms : MSok r c f h t MS) {sl : Nat} (hsl : sl ≤ 64) (h2 : MS 2 = nI sl) (hC : ∀ j, j < sl → sgnB (MA 3 j) = true) (h22 : MS 22 = 0) {k κ : Nat} (hk : k < r * c) (h3 : κ < 3) (hCa : CaOk r c (MA 3) sl (MA 24) (MA 25)) : CC 7 mX4_layFound 0 0 [.ref 0, .int (nI k), .int (nI κ)] (WM MA MS Mh v) (fun r0 w1 => ∃ A B MT, w1 = (WM (va_up (va_up MA 24 A) 25 B) MT Mh v) ∧ KP MS MT ∧ CaOk r c (MA 3) sl A B ∧ ¬ A (3 * k + κ) = 0 ∧ r0 = none) := by
  have h25 : r * c ≤ 25 := Nat.mul_le_mul hgeo.1.2 hgeo.2.1.2
  have h9a : 9 ≤ r * c := Nat.mul_le_mul hgeo.1.1 hgeo.2.1.1
  have hP := ptsN_le κ
  refine CC.of okX4_layFound.1 (Nat.le_of_ble_eq_true rfl) (fun g M => ?_)
  have lp : ∀ m j (le : Int32) (MT : Nat → Int32), j + m = ptsN κ → LE κ (thr r c k) (smM κ (tauG r c k) (MA 3) sl) (nI k) j le → KP MS MT → (-1 : Int32) ≤ ltF κ (thr r c k) (smM κ (tauG r c k) (MA 3) sl) (smF κ (tauG r c k) (MA 3) sl) j → g 0 0 38 [(0, .ref 0), (1, .int (nI k)), (2, .int (nI κ)), (3, .int (nI (3 * k + κ))), (4, .int (nI (hmC κ (thr r c k) j))), (5, .int (nI (hmM κ (thr r c k) (smM κ (tauG r c k) (MA 3) sl) j))), (6, .int le), (7, .int (ltF κ (thr r c k) (smM κ (tauG r c k) (MA 3) sl) (smF κ (tauG r c k) (MA 3) sl) j)), (8, .int (nI j))] [] (WM (va_up MA 24 (upd (MA 24) (3 * k + κ) 1)) MT Mh v) := by
    intro m
    induction m with
    | zero =>
      intro j le MT hj hLE hK hge
      have ej : j = ptsN κ := by omega
      subst ej
      refine M.blk (is := [(.iload 8, 8, 0, 0), (.iload_n 2, 2, 0, 0), (.iconst 2, 0, 0, 2)]) (pc1 := 42) (lo1 := [(0, .ref 0), (1, .int (nI k)), (2, .int (nI κ)), (3, .int (nI (3 * k + κ))), (4, .int (nI (hmC κ (thr r c k) (ptsN κ)))), (5, .int (nI (hmM κ (thr r c k) (smM κ (tauG r c k) (MA 3) sl) (ptsN κ)))), (6, .int le), (7, .int (ltF κ (thr r c k) (smM κ (tauG r c k) (MA 3) sl) (smF κ (tauG r c k) (MA 3) sl) (ptsN κ))), (8, .int (nI (ptsN κ)))]) (st1 := [.int 2, .int (nI κ), .int (nI (ptsN κ))]) (w1 := (WM (va_up MA 24 (upd (MA 24) (3 * k + κ) 1)) MT Mh v)) (by decide +kernel) rfl ?_
      have j42 : ∀ b42 : Int32, b42 = (if ¬ nI κ = 2 then (32 : Int32) else 128) → g 0 0 53 [(0, .ref 0), (1, .int (nI k)), (2, .int (nI κ)), (3, .int (nI (3 * k + κ))), (4, .int (nI (hmC κ (thr r c k) (ptsN κ)))), (5, .int (nI (hmM κ (thr r c k) (smM κ (tauG r c k) (MA 3) sl) (ptsN κ)))), (6, .int le), (7, .int (ltF κ (thr r c k) (smM κ (tauG r c k) (MA 3) sl) (smF κ (tauG r c k) (MA 3) sl) (ptsN κ))), (8, .int (nI (ptsN κ)))] [.int b42, .int (nI (ptsN κ))] (WM (va_up MA 24 (upd (MA 24) (3 * k + κ) 1)) MT Mh v) := by
        intro b42 hb42
        rw [hb42, pt_b h3]
        refine M.icmp_ge (off := 100) (tgt := 153) (nx := 56) (by decide +kernel) (fun z53 => ?_) (fun z53 => by exfalso; exact z53 (nI_le (Nat.le_refl _) (by omega)))
        refine M.blk (is := [(.aload_n 0, 0, 0, 0), (.getfield 33, 4, 25, 0), (.iconst 4, 0, 0, 4), (.iload_n 3, 3, 0, 0), (.imul, 0, 0, 0), (.iload 4, 4, 0, 0)]) (pc1 := 162) (lo1 := [(0, .ref 0), (1, .int (nI k)), (2, .int (nI κ)), (3, .int (nI (3 * k + κ))), (4, .int (nI (hmC κ (thr r c k) (ptsN κ)))), (5, .int (nI (hmM κ (thr r c k) (smM κ (tauG r c k) (MA 3) sl) (ptsN κ)))), (6, .int le), (7, .int (ltF κ (thr r c k) (smM κ (tauG r c k) (MA 3) sl) (smF κ (tauG r c k) (MA 3) sl) (ptsN κ))), (8, .int (nI (ptsN κ)))]) (st1 := [.int (nI (hmC κ (thr r c k) (ptsN κ))), .int (4 * (nI (3 * k + κ))), .ref 5]) (w1 := (WM (va_up MA 24 (upd (MA 24) (3 * k + κ) 1)) MT Mh v)) (by decide +kernel) rfl ?_
        refine M.ast (n := 300) (f := MA 25) (j := 4 * (3 * k + κ)) (nx := 163) (by decide +kernel) rfl (by rw [show (4 : Int32) = nI 4 from rfl, pk_mul]) (by omega) (by decide) ?_
        show g 0 0 163 [(0, .ref 0), (1, .int (nI k)), (2, .int (nI κ)), (3, .int (nI (3 * k + κ))), (4, .int (nI (hmC κ (thr r c k) (ptsN κ)))), (5, .int (nI (hmM κ (thr r c k) (smM κ (tauG r c k) (MA 3) sl) (ptsN κ)))), (6, .int le), (7, .int (ltF κ (thr r c k) (smM κ (tauG r c k) (MA 3) sl) (smF κ (tauG r c k) (MA 3) sl) (ptsN κ))), (8, .int (nI (ptsN κ)))] [] (WM (va_up (va_up MA 24 (upd (MA 24) (3 * k + κ) 1)) 25 (upd (MA 25) (4 * (3 * k + κ)) (nI (hmC κ (thr r c k) (ptsN κ))))) MT Mh v)
        refine M.blk (is := [(.aload_n 0, 0, 0, 0), (.getfield 33, 4, 25, 0), (.iconst 4, 0, 0, 4), (.iload_n 3, 3, 0, 0), (.imul, 0, 0, 0), (.iconst 1, 0, 0, 1), (.iadd, 0, 0, 0), (.iload 5, 5, 0, 0)]) (pc1 := 174) (lo1 := [(0, .ref 0), (1, .int (nI k)), (2, .int (nI κ)), (3, .int (nI (3 * k + κ))), (4, .int (nI (hmC κ (thr r c k) (ptsN κ)))), (5, .int (nI (hmM κ (thr r c k) (smM κ (tauG r c k) (MA 3) sl) (ptsN κ)))), (6, .int le), (7, .int (ltF κ (thr r c k) (smM κ (tauG r c k) (MA 3) sl) (smF κ (tauG r c k) (MA 3) sl) (ptsN κ))), (8, .int (nI (ptsN κ)))]) (st1 := [.int (nI (hmM κ (thr r c k) (smM κ (tauG r c k) (MA 3) sl) (ptsN κ))), .int ((4 * (nI (3 * k + κ))) + 1), .ref 5]) (w1 := (WM (va_up (va_up MA 24 (upd (MA 24) (3 * k + κ) 1)) 25 (upd (MA 25) (4 * (3 * k + κ)) (nI (hmC κ (thr r c k) (ptsN κ))))) MT Mh v)) (by decide +kernel) rfl ?_
        refine M.ast (n := 300) (f := upd (MA 25) (4 * (3 * k + κ)) (nI (hmC κ (thr r c k) (ptsN κ)))) (j := 4 * (3 * k + κ) + 1) (nx := 175) (by decide +kernel) rfl (by rw [show (4 : Int32) = nI 4 from rfl, pk_mul, show (1 : Int32) = nI 1 from rfl, nI_add]) (by omega) (by decide) ?_
        show g 0 0 175 [(0, .ref 0), (1, .int (nI k)), (2, .int (nI κ)), (3, .int (nI (3 * k + κ))), (4, .int (nI (hmC κ (thr r c k) (ptsN κ)))), (5, .int (nI (hmM κ (thr r c k) (smM κ (tauG r c k) (MA 3) sl) (ptsN κ)))), (6, .int le), (7, .int (ltF κ (thr r c k) (smM κ (tauG r c k) (MA 3) sl) (smF κ (tauG r c k) (MA 3) sl) (ptsN κ))), (8, .int (nI (ptsN κ)))] [] (WM (va_up (va_up MA 24 (upd (MA 24) (3 * k + κ) 1)) 25 (upd (upd (MA 25) (4 * (3 * k + κ)) (nI (hmC κ (thr r c k) (ptsN κ)))) (4 * (3 * k + κ) + 1) (nI (hmM κ (thr r c k) (smM κ (tauG r c k) (MA 3) sl) (ptsN κ))))) MT Mh v)
        refine M.blk (is := [(.aload_n 0, 0, 0, 0), (.getfield 33, 4, 25, 0), (.iconst 4, 0, 0, 4), (.iload_n 3, 3, 0, 0), (.imul, 0, 0, 0), (.iconst 2, 0, 0, 2), (.iadd, 0, 0, 0), (.iload 6, 6, 0, 0)]) (pc1 := 186) (lo1 := [(0, .ref 0), (1, .int (nI k)), (2, .int (nI κ)), (3, .int (nI (3 * k + κ))), (4, .int (nI (hmC κ (thr r c k) (ptsN κ)))), (5, .int (nI (hmM κ (thr r c k) (smM κ (tauG r c k) (MA 3) sl) (ptsN κ)))), (6, .int le), (7, .int (ltF κ (thr r c k) (smM κ (tauG r c k) (MA 3) sl) (smF κ (tauG r c k) (MA 3) sl) (ptsN κ))), (8, .int (nI (ptsN κ)))]) (st1 := [.int le, .int ((4 * (nI (3 * k + κ))) + 2), .ref 5]) (w1 := (WM (va_up (va_up MA 24 (upd (MA 24) (3 * k + κ) 1)) 25 (upd (upd (MA 25) (4 * (3 * k + κ)) (nI (hmC κ (thr r c k) (ptsN κ)))) (4 * (3 * k + κ) + 1) (nI (hmM κ (thr r c k) (smM κ (tauG r c k) (MA 3) sl) (ptsN κ))))) MT Mh v)) (by decide +kernel) rfl ?_
        refine M.ast (n := 300) (f := upd (upd (MA 25) (4 * (3 * k + κ)) (nI (hmC κ (thr r c k) (ptsN κ)))) (4 * (3 * k + κ) + 1) (nI (hmM κ (thr r c k) (smM κ (tauG r c k) (MA 3) sl) (ptsN κ)))) (j := 4 * (3 * k + κ) + 2) (nx := 187) (by decide +kernel) rfl (by rw [show (4 : Int32) = nI 4 from rfl, pk_mul, show (2 : Int32) = nI 2 from rfl, nI_add]) (by omega) (by decide) ?_
        show g 0 0 187 [(0, .ref 0), (1, .int (nI k)), (2, .int (nI κ)), (3, .int (nI (3 * k + κ))), (4, .int (nI (hmC κ (thr r c k) (ptsN κ)))), (5, .int (nI (hmM κ (thr r c k) (smM κ (tauG r c k) (MA 3) sl) (ptsN κ)))), (6, .int le), (7, .int (ltF κ (thr r c k) (smM κ (tauG r c k) (MA 3) sl) (smF κ (tauG r c k) (MA 3) sl) (ptsN κ))), (8, .int (nI (ptsN κ)))] [] (WM (va_up (va_up MA 24 (upd (MA 24) (3 * k + κ) 1)) 25 (upd (upd (upd (MA 25) (4 * (3 * k + κ)) (nI (hmC κ (thr r c k) (ptsN κ)))) (4 * (3 * k + κ) + 1) (nI (hmM κ (thr r c k) (smM κ (tauG r c k) (MA 3) sl) (ptsN κ)))) (4 * (3 * k + κ) + 2) le)) MT Mh v)
        refine M.blk (is := [(.aload_n 0, 0, 0, 0), (.getfield 33, 4, 25, 0), (.iconst 4, 0, 0, 4), (.iload_n 3, 3, 0, 0), (.imul, 0, 0, 0), (.iconst 3, 0, 0, 3), (.iadd, 0, 0, 0), (.iload 7, 7, 0, 0)]) (pc1 := 198) (lo1 := [(0, .ref 0), (1, .int (nI k)), (2, .int (nI κ)), (3, .int (nI (3 * k + κ))), (4, .int (nI (hmC κ (thr r c k) (ptsN κ)))), (5, .int (nI (hmM κ (thr r c k) (smM κ (tauG r c k) (MA 3) sl) (ptsN κ)))), (6, .int le), (7, .int (ltF κ (thr r c k) (smM κ (tauG r c k) (MA 3) sl) (smF κ (tauG r c k) (MA 3) sl) (ptsN κ))), (8, .int (nI (ptsN κ)))]) (st1 := [.int (ltF κ (thr r c k) (smM κ (tauG r c k) (MA 3) sl) (smF κ (tauG r c k) (MA 3) sl) (ptsN κ)), .int ((4 * (nI (3 * k + κ))) + 3), .ref 5]) (w1 := (WM (va_up (va_up MA 24 (upd (MA 24) (3 * k + κ) 1)) 25 (upd (upd (upd (MA 25) (4 * (3 * k + κ)) (nI (hmC κ (thr r c k) (ptsN κ)))) (4 * (3 * k + κ) + 1) (nI (hmM κ (thr r c k) (smM κ (tauG r c k) (MA 3) sl) (ptsN κ)))) (4 * (3 * k + κ) + 2) le)) MT Mh v)) (by decide +kernel) rfl ?_
        refine M.ast (n := 300) (f := upd (upd (upd (MA 25) (4 * (3 * k + κ)) (nI (hmC κ (thr r c k) (ptsN κ)))) (4 * (3 * k + κ) + 1) (nI (hmM κ (thr r c k) (smM κ (tauG r c k) (MA 3) sl) (ptsN κ)))) (4 * (3 * k + κ) + 2) le) (j := 4 * (3 * k + κ) + 3) (nx := 199) (by decide +kernel) rfl (by rw [show (4 : Int32) = nI 4 from rfl, pk_mul, show (3 : Int32) = nI 3 from rfl, nI_add]) (by omega) (by decide) ?_
        show g 0 0 199 [(0, .ref 0), (1, .int (nI k)), (2, .int (nI κ)), (3, .int (nI (3 * k + κ))), (4, .int (nI (hmC κ (thr r c k) (ptsN κ)))), (5, .int (nI (hmM κ (thr r c k) (smM κ (tauG r c k) (MA 3) sl) (ptsN κ)))), (6, .int le), (7, .int (ltF κ (thr r c k) (smM κ (tauG r c k) (MA 3) sl) (smF κ (tauG r c k) (MA 3) sl) (ptsN κ))), (8, .int (nI (ptsN κ)))] [] (WM (va_up (va_up MA 24 (upd (MA 24) (3 * k + κ) 1)) 25 (upd (upd (upd (upd (MA 25) (4 * (3 * k + κ)) (nI (hmC κ (thr r c k) (ptsN κ)))) (4 * (3 * k + κ) + 1) (nI (hmM κ (thr r c k) (smM κ (tauG r c k) (MA 3) sl) (ptsN κ)))) (4 * (3 * k + κ) + 2) le) (4 * (3 * k + κ) + 3) (ltF κ (thr r c k) (smM κ (tauG r c k) (MA 3) sl) (smF κ (tauG r c k) (MA 3) sl) (ptsN κ)))) MT Mh v)
        exact M.retv (nx := 200) (by decide +kernel) ⟨_, _, MT, rfl, hK, ca_put hCa h3 (fd_y r c (MA 3) sl k κ).1.symm (fd_y r c (MA 3) sl k κ).2.1.symm ((le_end hLE).trans (fd_y r c (MA 3) sl k κ).2.2.1.symm) (fd_y r c (MA 3) sl k κ).2.2.2.symm, by rw [pk_us]; decide, rfl⟩
      refine M.icmp_ne (off := 9) (tgt := 51) (nx := 45) (by decide +kernel) (fun z42 => ?_) (fun z42 => ?_)
      · refine M.blk (is := [(.bipush 32, 0, 0, 32)]) (pc1 := 53) (lo1 := [(0, .ref 0), (1, .int (nI k)), (2, .int (nI κ)), (3, .int (nI (3 * k + κ))), (4, .int (nI (hmC κ (thr r c k) (ptsN κ)))), (5, .int (nI (hmM κ (thr r c k) (smM κ (tauG r c k) (MA 3) sl) (ptsN κ)))), (6, .int le), (7, .int (ltF κ (thr r c k) (smM κ (tauG r c k) (MA 3) sl) (smF κ (tauG r c k) (MA 3) sl) (ptsN κ))), (8, .int (nI (ptsN κ)))]) (st1 := [.int 32, .int (nI (ptsN κ))]) (w1 := (WM (va_up MA 24 (upd (MA 24) (3 * k + κ) 1)) MT Mh v)) (by decide +kernel) rfl ?_
        exact j42 _ (if_pos z42).symm
      · refine M.blk (is := [(.sipush 128, 0, 0, 128), (.goto 5, 53, 0, 0)]) (pc1 := 53) (lo1 := [(0, .ref 0), (1, .int (nI k)), (2, .int (nI κ)), (3, .int (nI (3 * k + κ))), (4, .int (nI (hmC κ (thr r c k) (ptsN κ)))), (5, .int (nI (hmM κ (thr r c k) (smM κ (tauG r c k) (MA 3) sl) (ptsN κ)))), (6, .int le), (7, .int (ltF κ (thr r c k) (smM κ (tauG r c k) (MA 3) sl) (smF κ (tauG r c k) (MA 3) sl) (ptsN κ))), (8, .int (nI (ptsN κ)))]) (st1 := [.int 128, .int (nI (ptsN κ))]) (w1 := (WM (va_up MA 24 (upd (MA 24) (3 * k + κ) 1)) MT Mh v)) (by decide +kernel) rfl ?_
        exact j42 _ (if_neg (fun h => h z42)).symm
    | succ m ih =>
      intro j le MT hj hLE hK hge
      have hjP : j < ptsN κ := by omega
      obtain ⟨n1, n2, n3⟩ := n_parts (k := k) h3 hjP
      have hmsT := kp_ms hK hms
      refine M.blk (is := [(.iload 8, 8, 0, 0), (.iload_n 2, 2, 0, 0), (.iconst 2, 0, 0, 2)]) (pc1 := 42) (lo1 := [(0, .ref 0), (1, .int (nI k)), (2, .int (nI κ)), (3, .int (nI (3 * k + κ))), (4, .int (nI (hmC κ (thr r c k) j))), (5, .int (nI (hmM κ (thr r c k) (smM κ (tauG r c k) (MA 3) sl) j))), (6, .int le), (7, .int (ltF κ (thr r c k) (smM κ (tauG r c k) (MA 3) sl) (smF κ (tauG r c k) (MA 3) sl) j)), (8, .int (nI j))]) (st1 := [.int 2, .int (nI κ), .int (nI j)]) (w1 := (WM (va_up MA 24 (upd (MA 24) (3 * k + κ) 1)) MT Mh v)) (by decide +kernel) rfl ?_
      have j42 : ∀ b42 : Int32, b42 = (if ¬ nI κ = 2 then (32 : Int32) else 128) → g 0 0 53 [(0, .ref 0), (1, .int (nI k)), (2, .int (nI κ)), (3, .int (nI (3 * k + κ))), (4, .int (nI (hmC κ (thr r c k) j))), (5, .int (nI (hmM κ (thr r c k) (smM κ (tauG r c k) (MA 3) sl) j))), (6, .int le), (7, .int (ltF κ (thr r c k) (smM κ (tauG r c k) (MA 3) sl) (smF κ (tauG r c k) (MA 3) sl) j)), (8, .int (nI j))] [.int b42, .int (nI j)] (WM (va_up MA 24 (upd (MA 24) (3 * k + κ) 1)) MT Mh v) := by
        intro b42 hb42
        rw [hb42, pt_b h3]
        refine M.icmp_ge (off := 100) (tgt := 153) (nx := 56) (by decide +kernel) (fun z53 => by exfalso; exact nI_ge hjP (by omega) z53) (fun z53 => ?_)
        refine M.blk (is := [(.sipush 1000, 0, 0, 1000), (.iload_n 1, 1, 0, 0), (.imul, 0, 0, 0), (.sipush 300, 0, 0, 300), (.iload_n 2, 2, 0, 0), (.imul, 0, 0, 0), (.iadd, 0, 0, 0), (.iload 8, 8, 0, 0), (.iadd, 0, 0, 0)]) (pc1 := 70) (lo1 := [(0, .ref 0), (1, .int (nI k)), (2, .int (nI κ)), (3, .int (nI (3 * k + κ))), (4, .int (nI (hmC κ (thr r c k) j))), (5, .int (nI (hmM κ (thr r c k) (smM κ (tauG r c k) (MA 3) sl) j))), (6, .int le), (7, .int (ltF κ (thr r c k) (smM κ (tauG r c k) (MA 3) sl) (smF κ (tauG r c k) (MA 3) sl) j)), (8, .int (nI j))]) (st1 := [.int (((1000 * (nI k)) + (300 * (nI κ))) + (nI j))]) (w1 := (WM (va_up MA 24 (upd (MA 24) (3 * k + κ) 1)) MT Mh v)) (by decide +kernel) rfl ?_
        rw [n_ar]
        refine M.blk (is := [(.istore 9, 9, 0, 0), (.aload_n 0, 0, 0, 0), (.iload 9, 9, 0, 0)]) (pc1 := 75) (lo1 := [(9, .int (nI (1000 * k + 300 * κ + j))), (0, .ref 0), (1, .int (nI k)), (2, .int (nI κ)), (3, .int (nI (3 * k + κ))), (4, .int (nI (hmC κ (thr r c k) j))), (5, .int (nI (hmM κ (thr r c k) (smM κ (tauG r c k) (MA 3) sl) j))), (6, .int le), (7, .int (ltF κ (thr r c k) (smM κ (tauG r c k) (MA 3) sl) (smF κ (tauG r c k) (MA 3) sl) j)), (8, .int (nI j))]) (st1 := [.int (nI (1000 * k + 300 * κ + j)), .ref 0]) (w1 := (WM (va_up MA 24 (upd (MA 24) (3 * k + κ) 1)) MT Mh v)) (by decide +kernel) rfl ?_
        refine M.callV (as := [.int (nI (1000 * k + 300 * κ + j))]) (st := []) (nx := 78) okX4_layFault lkX4_177 (m_layNum (MS := MT) hgeo hmsT (N := 1000 * k + 300 * κ + j) (by omega)) (by decide +kernel) (by decide) rfl (Nat.le_of_ble_eq_true rfl) rfl (by decide) ⟨by decide, by decide⟩ ?_
        intro r0 w1 hq
        obtain ⟨MU, rfl, hu, rfl, hfs⟩ := hq
        rw [n1, n2, n3, flt_n hk h3 hjP] at hfs
        have hK2 := KP.tr hK (kp_lf hu)
        show g 0 0 78 [(9, .int (nI (1000 * k + 300 * κ + j))), (0, .ref 0), (1, .int (nI k)), (2, .int (nI κ)), (3, .int (nI (3 * k + κ))), (4, .int (nI (hmC κ (thr r c k) j))), (5, .int (nI (hmM κ (thr r c k) (smM κ (tauG r c k) (MA 3) sl) j))), (6, .int le), (7, .int (ltF κ (thr r c k) (smM κ (tauG r c k) (MA 3) sl) (smF κ (tauG r c k) (MA 3) sl) j)), (8, .int (nI j))] [.int (b2i (fltN r c (1000 * k + 300 * κ + j)))] (WM (va_up MA 24 (upd (MA 24) (3 * k + κ) 1)) MU Mh v)
        rw [flt_n hk h3 hjP]
        refine M.if_eq (off := 69) (tgt := 147) (nx := 81) (by decide +kernel) (fun z78 => ?_) (fun z78 => ?_)
        · refine M.blk (is := [(.iinc 8 1, 8, 0, 1), (.goto (-112), 38, 0, 0)]) (pc1 := 38) (lo1 := [(8, .int ((nI j) + 1)), (9, .int (nI (1000 * k + 300 * κ + j))), (0, .ref 0), (1, .int (nI k)), (2, .int (nI κ)), (3, .int (nI (3 * k + κ))), (4, .int (nI (hmC κ (thr r c k) j))), (5, .int (nI (hmM κ (thr r c k) (smM κ (tauG r c k) (MA 3) sl) j))), (6, .int le), (7, .int (ltF κ (thr r c k) (smM κ (tauG r c k) (MA 3) sl) (smF κ (tauG r c k) (MA 3) sl) j))]) (st1 := []) (w1 := (WM (va_up MA 24 (upd (MA 24) (3 * k + κ) 1)) MU Mh v)) (by decide +kernel) rfl ?_
          refine M.lsub [2, 3, 4, 5, 6, 7, 8, 9, 0] (lo1 := [(0, .ref 0), (1, .int (nI k)), (2, .int (nI κ)), (3, .int (nI (3 * k + κ))), (4, .int (nI (hmC κ (thr r c k) j))), (5, .int (nI (hmM κ (thr r c k) (smM κ (tauG r c k) (MA 3) sl) j))), (6, .int le), (7, .int (ltF κ (thr r c k) (smM κ (tauG r c k) (MA 3) sl) (smF κ (tauG r c k) (MA 3) sl) j)), (8, .int ((nI j) + 1))]) rfl ?_
          rw [nI_1]
          have hn := b2i_f z78
          obtain ⟨q1, q2, q3⟩ := hc_f (M := (smM κ (tauG r c k) (MA 3) sl)) (F := (smF κ (tauG r c k) (MA 3) sl)) hn
          have e := ih (j + 1) le MU (by omega) (le_no hjP hLE (fun hh => hn hh.2)) hK2 (by rw [q3]; exact hge)
          rw [q1, q2, q3] at e
          exact e
        · have hpt := b2i_t z78
          refine M.blk (is := [(.aload_n 0, 0, 0, 0)]) (pc1 := 82) (lo1 := [(9, .int (nI (1000 * k + 300 * κ + j))), (0, .ref 0), (1, .int (nI k)), (2, .int (nI κ)), (3, .int (nI (3 * k + κ))), (4, .int (nI (hmC κ (thr r c k) j))), (5, .int (nI (hmM κ (thr r c k) (smM κ (tauG r c k) (MA 3) sl) j))), (6, .int le), (7, .int (ltF κ (thr r c k) (smM κ (tauG r c k) (MA 3) sl) (smF κ (tauG r c k) (MA 3) sl) j)), (8, .int (nI j))]) (st1 := [.ref 0]) (w1 := (WM (va_up MA 24 (upd (MA 24) (3 * k + κ) 1)) MU Mh v)) (by decide +kernel) rfl ?_
          refine M.callV (as := []) (st := []) (nx := 85) okX4_layRun lkX4_171 (m_layRun (MS := MU) (MA := (va_up MA 24 (upd (MA 24) (3 * k + κ) 1))) hgeo (kp_ms hK2 hms) hsl ((hK2 2 (by omega)).trans h2) hC (hfs hpt) hk h3 hjP ((hK2 22 (by omega)).trans h22)) (by decide +kernel) (by decide) rfl (Nat.le_of_ble_eq_true rfl) rfl (by decide) ⟨by decide, by decide⟩ ?_
          intro r0 w1 hq
          obtain ⟨MW, rfl, hL, rfl⟩ := hq
          obtain ⟨v1, v2, v3, v4, v5, v6⟩ := lr_val hgeo hk hsl hL
          have hK3 := KP.tr hK2 (kp_lr hL.1)
          show g 0 0 85 [(9, .int (nI (1000 * k + 300 * κ + j))), (0, .ref 0), (1, .int (nI k)), (2, .int (nI κ)), (3, .int (nI (3 * k + κ))), (4, .int (nI (hmC κ (thr r c k) j))), (5, .int (nI (hmM κ (thr r c k) (smM κ (tauG r c k) (MA 3) sl) j))), (6, .int le), (7, .int (ltF κ (thr r c k) (smM κ (tauG r c k) (MA 3) sl) (smF κ (tauG r c k) (MA 3) sl) j)), (8, .int (nI j))] [] (WM (va_up MA 24 (upd (MA 24) (3 * k + κ) 1)) MW Mh v)
          refine M.blk (is := [(.iinc 4 1, 4, 0, 1), (.iload 5, 5, 0, 0), (.aload_n 0, 0, 0, 0), (.getfield 139, 4, 20, 0)]) (pc1 := 94) (lo1 := [(4, .int ((nI (hmC κ (thr r c k) j)) + 1)), (9, .int (nI (1000 * k + 300 * κ + j))), (0, .ref 0), (1, .int (nI k)), (2, .int (nI κ)), (3, .int (nI (3 * k + κ))), (5, .int (nI (hmM κ (thr r c k) (smM κ (tauG r c k) (MA 3) sl) j))), (6, .int le), (7, .int (ltF κ (thr r c k) (smM κ (tauG r c k) (MA 3) sl) (smF κ (tauG r c k) (MA 3) sl) j)), (8, .int (nI j))]) (st1 := [.int (MW 20), .int (nI (hmM κ (thr r c k) (smM κ (tauG r c k) (MA 3) sl) j))]) (w1 := (WM (va_up MA 24 (upd (MA 24) (3 * k + κ) 1)) MW Mh v)) (by decide +kernel) rfl ?_
          have j94 : ∀ b94 : Int32, b94 = (if MW 20 ≤ 0 then (0 : Int32) else 1) → g 0 0 102 [(4, .int ((nI (hmC κ (thr r c k) j)) + 1)), (9, .int (nI (1000 * k + 300 * κ + j))), (0, .ref 0), (1, .int (nI k)), (2, .int (nI κ)), (3, .int (nI (3 * k + κ))), (5, .int (nI (hmM κ (thr r c k) (smM κ (tauG r c k) (MA 3) sl) j))), (6, .int le), (7, .int (ltF κ (thr r c k) (smM κ (tauG r c k) (MA 3) sl) (smF κ (tauG r c k) (MA 3) sl) j)), (8, .int (nI j))] [.int b94, .int (nI (hmM κ (thr r c k) (smM κ (tauG r c k) (MA 3) sl) j))] (WM (va_up MA 24 (upd (MA 24) (3 * k + κ) 1)) MW Mh v) := by
            intro b94 hb94
            refine M.blk (is := [(.iadd, 0, 0, 0), (.istore 5, 5, 0, 0), (.aload_n 0, 0, 0, 0), (.getfield 139, 4, 20, 0)]) (pc1 := 109) (lo1 := [(5, .int ((nI (hmM κ (thr r c k) (smM κ (tauG r c k) (MA 3) sl) j)) + b94)), (4, .int ((nI (hmC κ (thr r c k) j)) + 1)), (9, .int (nI (1000 * k + 300 * κ + j))), (0, .ref 0), (1, .int (nI k)), (2, .int (nI κ)), (3, .int (nI (3 * k + κ))), (6, .int le), (7, .int (ltF κ (thr r c k) (smM κ (tauG r c k) (MA 3) sl) (smF κ (tauG r c k) (MA 3) sl) j)), (8, .int (nI j))]) (st1 := [.int (MW 20)]) (w1 := (WM (va_up MA 24 (upd (MA 24) (3 * k + κ) 1)) MW Mh v)) (by decide +kernel) rfl ?_
            refine M.if_ne (off := 14) (tgt := 123) (nx := 112) (by decide +kernel) (fun z109 => ?_) (fun z109 => ?_)
            · refine M.blk (is := [(.iload 6, 6, 0, 0), (.istore 6, 6, 0, 0), (.aload_n 0, 0, 0, 0), (.getfield 145, 4, 17, 0), (.iload 7, 7, 0, 0)]) (pc1 := 133) (lo1 := [(6, .int le), (5, .int ((nI (hmM κ (thr r c k) (smM κ (tauG r c k) (MA 3) sl) j)) + b94)), (4, .int ((nI (hmC κ (thr r c k) j)) + 1)), (9, .int (nI (1000 * k + 300 * κ + j))), (0, .ref 0), (1, .int (nI k)), (2, .int (nI κ)), (3, .int (nI (3 * k + κ))), (7, .int (ltF κ (thr r c k) (smM κ (tauG r c k) (MA 3) sl) (smF κ (tauG r c k) (MA 3) sl) j)), (8, .int (nI j))]) (st1 := [.int (ltF κ (thr r c k) (smM κ (tauG r c k) (MA 3) sl) (smF κ (tauG r c k) (MA 3) sl) j), .int (MW 17)]) (w1 := (WM (va_up MA 24 (upd (MA 24) (3 * k + κ) 1)) MW Mh v)) (by decide +kernel) rfl ?_
              have j133 : ∀ b133 : Int32, b133 = (if MW 17 ≤ ltF κ (thr r c k) (smM κ (tauG r c k) (MA 3) sl) (smF κ (tauG r c k) (MA 3) sl) j then (ltF κ (thr r c k) (smM κ (tauG r c k) (MA 3) sl) (smF κ (tauG r c k) (MA 3) sl) j : Int32) else MW 17) → g 0 0 145 [(6, .int le), (5, .int ((nI (hmM κ (thr r c k) (smM κ (tauG r c k) (MA 3) sl) j)) + b94)), (4, .int ((nI (hmC κ (thr r c k) j)) + 1)), (9, .int (nI (1000 * k + 300 * κ + j))), (0, .ref 0), (1, .int (nI k)), (2, .int (nI κ)), (3, .int (nI (3 * k + κ))), (7, .int (ltF κ (thr r c k) (smM κ (tauG r c k) (MA 3) sl) (smF κ (tauG r c k) (MA 3) sl) j)), (8, .int (nI j))] [.int b133] (WM (va_up MA 24 (upd (MA 24) (3 * k + κ) 1)) MW Mh v) := by
                intro b133 hb133
                refine M.blk (is := [(.istore 7, 7, 0, 0), (.iinc 8 1, 8, 0, 1), (.goto (-112), 38, 0, 0)]) (pc1 := 38) (lo1 := [(8, .int ((nI j) + 1)), (7, .int b133), (6, .int le), (5, .int ((nI (hmM κ (thr r c k) (smM κ (tauG r c k) (MA 3) sl) j)) + b94)), (4, .int ((nI (hmC κ (thr r c k) j)) + 1)), (9, .int (nI (1000 * k + 300 * κ + j))), (0, .ref 0), (1, .int (nI k)), (2, .int (nI κ)), (3, .int (nI (3 * k + κ)))]) (st1 := []) (w1 := (WM (va_up MA 24 (upd (MA 24) (3 * k + κ) 1)) MW Mh v)) (by decide +kernel) rfl ?_
                refine M.lsub [6, 7, 8, 9, 4, 3, 2, 1, 0] (lo1 := [(0, .ref 0), (1, .int (nI k)), (2, .int (nI κ)), (3, .int (nI (3 * k + κ))), (4, .int ((nI (hmC κ (thr r c k) j)) + 1)), (5, .int ((nI (hmM κ (thr r c k) (smM κ (tauG r c k) (MA 3) sl) j)) + b94)), (6, .int le), (7, .int b133), (8, .int ((nI j) + 1))]) rfl ?_
                rw [nI_1]
                have f7 := lt_go (F := (smF κ (tauG r c k) (MA 3) sl)) (M := (smM κ (tauG r c k) (MA 3) sl)) hpt v1 hge hb133
                have f5 := hm_go (M := (smM κ (tauG r c k) (MA 3) sl)) hpt v4 hb94
                rw [nI_1, ← hc_t hpt, f5, f7]
                refine ih (j + 1) le MW (by omega) (le_no hjP hLE (fun hh => z109 (v4.trans hh.1))) hK3 ?_
                rw [← f7, hb133]
                split
                · exact hge
                · rename_i hh; exact Int32.le_of_lt (Int32.lt_of_le_of_lt hge (Int32.not_le.mp hh))
              refine M.icmp_le (off := 10) (tgt := 143) (nx := 136) (by decide +kernel) (fun z133 => ?_) (fun z133 => ?_)
              · refine M.blk (is := [(.iload 7, 7, 0, 0)]) (pc1 := 145) (lo1 := [(6, .int le), (5, .int ((nI (hmM κ (thr r c k) (smM κ (tauG r c k) (MA 3) sl) j)) + b94)), (4, .int ((nI (hmC κ (thr r c k) j)) + 1)), (9, .int (nI (1000 * k + 300 * κ + j))), (0, .ref 0), (1, .int (nI k)), (2, .int (nI κ)), (3, .int (nI (3 * k + κ))), (7, .int (ltF κ (thr r c k) (smM κ (tauG r c k) (MA 3) sl) (smF κ (tauG r c k) (MA 3) sl) j)), (8, .int (nI j))]) (st1 := [.int (ltF κ (thr r c k) (smM κ (tauG r c k) (MA 3) sl) (smF κ (tauG r c k) (MA 3) sl) j)]) (w1 := (WM (va_up MA 24 (upd (MA 24) (3 * k + κ) 1)) MW Mh v)) (by decide +kernel) rfl ?_
                exact j133 _ (if_pos z133).symm
              · refine M.blk (is := [(.aload_n 0, 0, 0, 0), (.getfield 145, 4, 17, 0), (.goto 5, 145, 0, 0)]) (pc1 := 145) (lo1 := [(6, .int le), (5, .int ((nI (hmM κ (thr r c k) (smM κ (tauG r c k) (MA 3) sl) j)) + b94)), (4, .int ((nI (hmC κ (thr r c k) j)) + 1)), (9, .int (nI (1000 * k + 300 * κ + j))), (0, .ref 0), (1, .int (nI k)), (2, .int (nI κ)), (3, .int (nI (3 * k + κ))), (7, .int (ltF κ (thr r c k) (smM κ (tauG r c k) (MA 3) sl) (smF κ (tauG r c k) (MA 3) sl) j)), (8, .int (nI j))]) (st1 := [.int (MW 17)]) (w1 := (WM (va_up MA 24 (upd (MA 24) (3 * k + κ) 1)) MW Mh v)) (by decide +kernel) rfl ?_
                exact j133 _ (if_neg z133).symm
            · refine M.blk (is := [(.iload 6, 6, 0, 0), (.iconst (-1), 0, 0, (-1))]) (pc1 := 115) (lo1 := [(5, .int ((nI (hmM κ (thr r c k) (smM κ (tauG r c k) (MA 3) sl) j)) + b94)), (4, .int ((nI (hmC κ (thr r c k) j)) + 1)), (9, .int (nI (1000 * k + 300 * κ + j))), (0, .ref 0), (1, .int (nI k)), (2, .int (nI κ)), (3, .int (nI (3 * k + κ))), (6, .int le), (7, .int (ltF κ (thr r c k) (smM κ (tauG r c k) (MA 3) sl) (smF κ (tauG r c k) (MA 3) sl) j)), (8, .int (nI j))]) (st1 := [.int (-1), .int le]) (w1 := (WM (va_up MA 24 (upd (MA 24) (3 * k + κ) 1)) MW Mh v)) (by decide +kernel) rfl ?_
              refine M.icmp_ne (off := 8) (tgt := 123) (nx := 118) (by decide +kernel) (fun z115 => ?_) (fun z115 => ?_)
              · refine M.blk (is := [(.iload 6, 6, 0, 0), (.istore 6, 6, 0, 0), (.aload_n 0, 0, 0, 0), (.getfield 145, 4, 17, 0), (.iload 7, 7, 0, 0)]) (pc1 := 133) (lo1 := [(6, .int le), (5, .int ((nI (hmM κ (thr r c k) (smM κ (tauG r c k) (MA 3) sl) j)) + b94)), (4, .int ((nI (hmC κ (thr r c k) j)) + 1)), (9, .int (nI (1000 * k + 300 * κ + j))), (0, .ref 0), (1, .int (nI k)), (2, .int (nI κ)), (3, .int (nI (3 * k + κ))), (7, .int (ltF κ (thr r c k) (smM κ (tauG r c k) (MA 3) sl) (smF κ (tauG r c k) (MA 3) sl) j)), (8, .int (nI j))]) (st1 := [.int (ltF κ (thr r c k) (smM κ (tauG r c k) (MA 3) sl) (smF κ (tauG r c k) (MA 3) sl) j), .int (MW 17)]) (w1 := (WM (va_up MA 24 (upd (MA 24) (3 * k + κ) 1)) MW Mh v)) (by decide +kernel) rfl ?_
                have j133 : ∀ b133 : Int32, b133 = (if MW 17 ≤ ltF κ (thr r c k) (smM κ (tauG r c k) (MA 3) sl) (smF κ (tauG r c k) (MA 3) sl) j then (ltF κ (thr r c k) (smM κ (tauG r c k) (MA 3) sl) (smF κ (tauG r c k) (MA 3) sl) j : Int32) else MW 17) → g 0 0 145 [(6, .int le), (5, .int ((nI (hmM κ (thr r c k) (smM κ (tauG r c k) (MA 3) sl) j)) + b94)), (4, .int ((nI (hmC κ (thr r c k) j)) + 1)), (9, .int (nI (1000 * k + 300 * κ + j))), (0, .ref 0), (1, .int (nI k)), (2, .int (nI κ)), (3, .int (nI (3 * k + κ))), (7, .int (ltF κ (thr r c k) (smM κ (tauG r c k) (MA 3) sl) (smF κ (tauG r c k) (MA 3) sl) j)), (8, .int (nI j))] [.int b133] (WM (va_up MA 24 (upd (MA 24) (3 * k + κ) 1)) MW Mh v) := by
                  intro b133 hb133
                  refine M.blk (is := [(.istore 7, 7, 0, 0), (.iinc 8 1, 8, 0, 1), (.goto (-112), 38, 0, 0)]) (pc1 := 38) (lo1 := [(8, .int ((nI j) + 1)), (7, .int b133), (6, .int le), (5, .int ((nI (hmM κ (thr r c k) (smM κ (tauG r c k) (MA 3) sl) j)) + b94)), (4, .int ((nI (hmC κ (thr r c k) j)) + 1)), (9, .int (nI (1000 * k + 300 * κ + j))), (0, .ref 0), (1, .int (nI k)), (2, .int (nI κ)), (3, .int (nI (3 * k + κ)))]) (st1 := []) (w1 := (WM (va_up MA 24 (upd (MA 24) (3 * k + κ) 1)) MW Mh v)) (by decide +kernel) rfl ?_
                  refine M.lsub [6, 7, 8, 9, 4, 3, 2, 1, 0] (lo1 := [(0, .ref 0), (1, .int (nI k)), (2, .int (nI κ)), (3, .int (nI (3 * k + κ))), (4, .int ((nI (hmC κ (thr r c k) j)) + 1)), (5, .int ((nI (hmM κ (thr r c k) (smM κ (tauG r c k) (MA 3) sl) j)) + b94)), (6, .int le), (7, .int b133), (8, .int ((nI j) + 1))]) rfl ?_
                  rw [nI_1]
                  have f7 := lt_go (F := (smF κ (tauG r c k) (MA 3) sl)) (M := (smM κ (tauG r c k) (MA 3) sl)) hpt v1 hge hb133
                  have f5 := hm_go (M := (smM κ (tauG r c k) (MA 3) sl)) hpt v4 hb94
                  rw [nI_1, ← hc_t hpt, f5, f7]
                  refine ih (j + 1) le MW (by omega) (le_ne hLE z115) hK3 ?_
                  rw [← f7, hb133]
                  split
                  · exact hge
                  · rename_i hh; exact Int32.le_of_lt (Int32.lt_of_le_of_lt hge (Int32.not_le.mp hh))
                refine M.icmp_le (off := 10) (tgt := 143) (nx := 136) (by decide +kernel) (fun z133 => ?_) (fun z133 => ?_)
                · refine M.blk (is := [(.iload 7, 7, 0, 0)]) (pc1 := 145) (lo1 := [(6, .int le), (5, .int ((nI (hmM κ (thr r c k) (smM κ (tauG r c k) (MA 3) sl) j)) + b94)), (4, .int ((nI (hmC κ (thr r c k) j)) + 1)), (9, .int (nI (1000 * k + 300 * κ + j))), (0, .ref 0), (1, .int (nI k)), (2, .int (nI κ)), (3, .int (nI (3 * k + κ))), (7, .int (ltF κ (thr r c k) (smM κ (tauG r c k) (MA 3) sl) (smF κ (tauG r c k) (MA 3) sl) j)), (8, .int (nI j))]) (st1 := [.int (ltF κ (thr r c k) (smM κ (tauG r c k) (MA 3) sl) (smF κ (tauG r c k) (MA 3) sl) j)]) (w1 := (WM (va_up MA 24 (upd (MA 24) (3 * k + κ) 1)) MW Mh v)) (by decide +kernel) rfl ?_
                  exact j133 _ (if_pos z133).symm
                · refine M.blk (is := [(.aload_n 0, 0, 0, 0), (.getfield 145, 4, 17, 0), (.goto 5, 145, 0, 0)]) (pc1 := 145) (lo1 := [(6, .int le), (5, .int ((nI (hmM κ (thr r c k) (smM κ (tauG r c k) (MA 3) sl) j)) + b94)), (4, .int ((nI (hmC κ (thr r c k) j)) + 1)), (9, .int (nI (1000 * k + 300 * κ + j))), (0, .ref 0), (1, .int (nI k)), (2, .int (nI κ)), (3, .int (nI (3 * k + κ))), (7, .int (ltF κ (thr r c k) (smM κ (tauG r c k) (MA 3) sl) (smF κ (tauG r c k) (MA 3) sl) j)), (8, .int (nI j))]) (st1 := [.int (MW 17)]) (w1 := (WM (va_up MA 24 (upd (MA 24) (3 * k + κ) 1)) MW Mh v)) (by decide +kernel) rfl ?_
                  exact j133 _ (if_neg z133).symm
              · refine M.blk (is := [(.iload 9, 9, 0, 0), (.goto 5, 125, 0, 0), (.istore 6, 6, 0, 0), (.aload_n 0, 0, 0, 0), (.getfield 145, 4, 17, 0), (.iload 7, 7, 0, 0)]) (pc1 := 133) (lo1 := [(6, .int (nI (1000 * k + 300 * κ + j))), (5, .int ((nI (hmM κ (thr r c k) (smM κ (tauG r c k) (MA 3) sl) j)) + b94)), (4, .int ((nI (hmC κ (thr r c k) j)) + 1)), (9, .int (nI (1000 * k + 300 * κ + j))), (0, .ref 0), (1, .int (nI k)), (2, .int (nI κ)), (3, .int (nI (3 * k + κ))), (7, .int (ltF κ (thr r c k) (smM κ (tauG r c k) (MA 3) sl) (smF κ (tauG r c k) (MA 3) sl) j)), (8, .int (nI j))]) (st1 := [.int (ltF κ (thr r c k) (smM κ (tauG r c k) (MA 3) sl) (smF κ (tauG r c k) (MA 3) sl) j), .int (MW 17)]) (w1 := (WM (va_up MA 24 (upd (MA 24) (3 * k + κ) 1)) MW Mh v)) (by decide +kernel) rfl ?_
                have j133 : ∀ b133 : Int32, b133 = (if MW 17 ≤ ltF κ (thr r c k) (smM κ (tauG r c k) (MA 3) sl) (smF κ (tauG r c k) (MA 3) sl) j then (ltF κ (thr r c k) (smM κ (tauG r c k) (MA 3) sl) (smF κ (tauG r c k) (MA 3) sl) j : Int32) else MW 17) → g 0 0 145 [(6, .int (nI (1000 * k + 300 * κ + j))), (5, .int ((nI (hmM κ (thr r c k) (smM κ (tauG r c k) (MA 3) sl) j)) + b94)), (4, .int ((nI (hmC κ (thr r c k) j)) + 1)), (9, .int (nI (1000 * k + 300 * κ + j))), (0, .ref 0), (1, .int (nI k)), (2, .int (nI κ)), (3, .int (nI (3 * k + κ))), (7, .int (ltF κ (thr r c k) (smM κ (tauG r c k) (MA 3) sl) (smF κ (tauG r c k) (MA 3) sl) j)), (8, .int (nI j))] [.int b133] (WM (va_up MA 24 (upd (MA 24) (3 * k + κ) 1)) MW Mh v) := by
                  intro b133 hb133
                  refine M.blk (is := [(.istore 7, 7, 0, 0), (.iinc 8 1, 8, 0, 1), (.goto (-112), 38, 0, 0)]) (pc1 := 38) (lo1 := [(8, .int ((nI j) + 1)), (7, .int b133), (6, .int (nI (1000 * k + 300 * κ + j))), (5, .int ((nI (hmM κ (thr r c k) (smM κ (tauG r c k) (MA 3) sl) j)) + b94)), (4, .int ((nI (hmC κ (thr r c k) j)) + 1)), (9, .int (nI (1000 * k + 300 * κ + j))), (0, .ref 0), (1, .int (nI k)), (2, .int (nI κ)), (3, .int (nI (3 * k + κ)))]) (st1 := []) (w1 := (WM (va_up MA 24 (upd (MA 24) (3 * k + κ) 1)) MW Mh v)) (by decide +kernel) rfl ?_
                  refine M.lsub [6, 7, 8, 9, 4, 3, 2, 1, 0] (lo1 := [(0, .ref 0), (1, .int (nI k)), (2, .int (nI κ)), (3, .int (nI (3 * k + κ))), (4, .int ((nI (hmC κ (thr r c k) j)) + 1)), (5, .int ((nI (hmM κ (thr r c k) (smM κ (tauG r c k) (MA 3) sl) j)) + b94)), (6, .int (nI (1000 * k + 300 * κ + j))), (7, .int b133), (8, .int ((nI j) + 1))]) rfl ?_
                  rw [nI_1]
                  have f7 := lt_go (F := (smF κ (tauG r c k) (MA 3) sl)) (M := (smM κ (tauG r c k) (MA 3) sl)) hpt v1 hge hb133
                  have f5 := hm_go (M := (smM κ (tauG r c k) (MA 3) sl)) hpt v4 hb94
                  rw [nI_1, ← hc_t hpt, f5, f7]
                  refine ih (j + 1) (nI (1000 * k + 300 * κ + j)) MW (by omega) (le_yes (by omega) h3 hjP hLE z115 ⟨v4.symm.trans z109, hpt⟩) hK3 ?_
                  rw [← f7, hb133]
                  split
                  · exact hge
                  · rename_i hh; exact Int32.le_of_lt (Int32.lt_of_le_of_lt hge (Int32.not_le.mp hh))
                refine M.icmp_le (off := 10) (tgt := 143) (nx := 136) (by decide +kernel) (fun z133 => ?_) (fun z133 => ?_)
                · refine M.blk (is := [(.iload 7, 7, 0, 0)]) (pc1 := 145) (lo1 := [(6, .int (nI (1000 * k + 300 * κ + j))), (5, .int ((nI (hmM κ (thr r c k) (smM κ (tauG r c k) (MA 3) sl) j)) + b94)), (4, .int ((nI (hmC κ (thr r c k) j)) + 1)), (9, .int (nI (1000 * k + 300 * κ + j))), (0, .ref 0), (1, .int (nI k)), (2, .int (nI κ)), (3, .int (nI (3 * k + κ))), (7, .int (ltF κ (thr r c k) (smM κ (tauG r c k) (MA 3) sl) (smF κ (tauG r c k) (MA 3) sl) j)), (8, .int (nI j))]) (st1 := [.int (ltF κ (thr r c k) (smM κ (tauG r c k) (MA 3) sl) (smF κ (tauG r c k) (MA 3) sl) j)]) (w1 := (WM (va_up MA 24 (upd (MA 24) (3 * k + κ) 1)) MW Mh v)) (by decide +kernel) rfl ?_
                  exact j133 _ (if_pos z133).symm
                · refine M.blk (is := [(.aload_n 0, 0, 0, 0), (.getfield 145, 4, 17, 0), (.goto 5, 145, 0, 0)]) (pc1 := 145) (lo1 := [(6, .int (nI (1000 * k + 300 * κ + j))), (5, .int ((nI (hmM κ (thr r c k) (smM κ (tauG r c k) (MA 3) sl) j)) + b94)), (4, .int ((nI (hmC κ (thr r c k) j)) + 1)), (9, .int (nI (1000 * k + 300 * κ + j))), (0, .ref 0), (1, .int (nI k)), (2, .int (nI κ)), (3, .int (nI (3 * k + κ))), (7, .int (ltF κ (thr r c k) (smM κ (tauG r c k) (MA 3) sl) (smF κ (tauG r c k) (MA 3) sl) j)), (8, .int (nI j))]) (st1 := [.int (MW 17)]) (w1 := (WM (va_up MA 24 (upd (MA 24) (3 * k + κ) 1)) MW Mh v)) (by decide +kernel) rfl ?_
                  exact j133 _ (if_neg z133).symm
          refine M.if_le (off := 7) (tgt := 101) (nx := 97) (by decide +kernel) (fun z94 => ?_) (fun z94 => ?_)
          · refine M.blk (is := [(.iconst 0, 0, 0, 0)]) (pc1 := 102) (lo1 := [(4, .int ((nI (hmC κ (thr r c k) j)) + 1)), (9, .int (nI (1000 * k + 300 * κ + j))), (0, .ref 0), (1, .int (nI k)), (2, .int (nI κ)), (3, .int (nI (3 * k + κ))), (5, .int (nI (hmM κ (thr r c k) (smM κ (tauG r c k) (MA 3) sl) j))), (6, .int le), (7, .int (ltF κ (thr r c k) (smM κ (tauG r c k) (MA 3) sl) (smF κ (tauG r c k) (MA 3) sl) j)), (8, .int (nI j))]) (st1 := [.int 0, .int (nI (hmM κ (thr r c k) (smM κ (tauG r c k) (MA 3) sl) j))]) (w1 := (WM (va_up MA 24 (upd (MA 24) (3 * k + κ) 1)) MW Mh v)) (by decide +kernel) rfl ?_
            exact j94 _ (if_pos z94).symm
          · refine M.blk (is := [(.iconst 1, 0, 0, 1), (.goto 4, 102, 0, 0)]) (pc1 := 102) (lo1 := [(4, .int ((nI (hmC κ (thr r c k) j)) + 1)), (9, .int (nI (1000 * k + 300 * κ + j))), (0, .ref 0), (1, .int (nI k)), (2, .int (nI κ)), (3, .int (nI (3 * k + κ))), (5, .int (nI (hmM κ (thr r c k) (smM κ (tauG r c k) (MA 3) sl) j))), (6, .int le), (7, .int (ltF κ (thr r c k) (smM κ (tauG r c k) (MA 3) sl) (smF κ (tauG r c k) (MA 3) sl) j)), (8, .int (nI j))]) (st1 := [.int 1, .int (nI (hmM κ (thr r c k) (smM κ (tauG r c k) (MA 3) sl) j))]) (w1 := (WM (va_up MA 24 (upd (MA 24) (3 * k + κ) 1)) MW Mh v)) (by decide +kernel) rfl ?_
            exact j94 _ (if_neg z94).symm
      refine M.icmp_ne (off := 9) (tgt := 51) (nx := 45) (by decide +kernel) (fun z42 => ?_) (fun z42 => ?_)
      · refine M.blk (is := [(.bipush 32, 0, 0, 32)]) (pc1 := 53) (lo1 := [(0, .ref 0), (1, .int (nI k)), (2, .int (nI κ)), (3, .int (nI (3 * k + κ))), (4, .int (nI (hmC κ (thr r c k) j))), (5, .int (nI (hmM κ (thr r c k) (smM κ (tauG r c k) (MA 3) sl) j))), (6, .int le), (7, .int (ltF κ (thr r c k) (smM κ (tauG r c k) (MA 3) sl) (smF κ (tauG r c k) (MA 3) sl) j)), (8, .int (nI j))]) (st1 := [.int 32, .int (nI j)]) (w1 := (WM (va_up MA 24 (upd (MA 24) (3 * k + κ) 1)) MT Mh v)) (by decide +kernel) rfl ?_
        exact j42 _ (if_pos z42).symm
      · refine M.blk (is := [(.sipush 128, 0, 0, 128), (.goto 5, 53, 0, 0)]) (pc1 := 53) (lo1 := [(0, .ref 0), (1, .int (nI k)), (2, .int (nI κ)), (3, .int (nI (3 * k + κ))), (4, .int (nI (hmC κ (thr r c k) j))), (5, .int (nI (hmM κ (thr r c k) (smM κ (tauG r c k) (MA 3) sl) j))), (6, .int le), (7, .int (ltF κ (thr r c k) (smM κ (tauG r c k) (MA 3) sl) (smF κ (tauG r c k) (MA 3) sl) j)), (8, .int (nI j))]) (st1 := [.int 128, .int (nI j)]) (w1 := (WM (va_up MA 24 (upd (MA 24) (3 * k + κ) 1)) MT Mh v)) (by decide +kernel) rfl ?_
        exact j42 _ (if_neg (fun h => h z42)).symm
  show g 0 0 0 [(0, .ref 0), (1, .int (nI k)), (2, .int (nI κ))] [] (WM MA MS Mh v)
  refine M.blk (is := [(.iconst 3, 0, 0, 3), (.iload_n 1, 1, 0, 0), (.imul, 0, 0, 0), (.iload_n 2, 2, 0, 0), (.iadd, 0, 0, 0)]) (pc1 := 5) (lo1 := [(0, .ref 0), (1, .int (nI k)), (2, .int (nI κ))]) (st1 := [.int ((3 * (nI k)) + (nI κ))]) (w1 := (WM MA MS Mh v)) (by decide +kernel) rfl ?_
  rw [at_ar]
  refine M.blk (is := [(.istore_n 3, 3, 0, 0), (.aload_n 0, 0, 0, 0), (.getfield 29, 4, 24, 0), (.iload_n 3, 3, 0, 0)]) (pc1 := 11) (lo1 := [(3, .int (nI (3 * k + κ))), (0, .ref 0), (1, .int (nI k)), (2, .int (nI κ))]) (st1 := [.int (nI (3 * k + κ)), .ref 4]) (w1 := (WM MA MS Mh v)) (by decide +kernel) rfl ?_
  refine M.zld (n := 75) (f := MA 24) (j := (3 * k + κ)) (nx := 12) (by decide +kernel) rfl rfl (by omega) (by decide) ?_
  refine M.if_eq (off := 4) (tgt := 16) (nx := 15) (by decide +kernel) (fun z12 => ?_) (fun z12 => ?_)
  · refine M.blk (is := [(.aload_n 0, 0, 0, 0), (.getfield 29, 4, 24, 0), (.iload_n 3, 3, 0, 0), (.iconst 1, 0, 0, 1)]) (pc1 := 22) (lo1 := [(3, .int (nI (3 * k + κ))), (0, .ref 0), (1, .int (nI k)), (2, .int (nI κ))]) (st1 := [.int 1, .int (nI (3 * k + κ)), .ref 4]) (w1 := (WM MA MS Mh v)) (by decide +kernel) rfl ?_
    refine M.zst (n := 75) (f := MA 24) (j := (3 * k + κ)) (nx := 23) (by decide +kernel) rfl rfl (by omega) (by decide) (by decide) ?_
    show g 0 0 23 [(3, .int (nI (3 * k + κ))), (0, .ref 0), (1, .int (nI k)), (2, .int (nI κ))] [] (WM (va_up MA 24 (upd (MA 24) (3 * k + κ) 1)) MS Mh v)
    refine M.blk (is := [(.iconst 0, 0, 0, 0), (.istore 4, 4, 0, 0), (.iconst 0, 0, 0, 0), (.istore 5, 5, 0, 0), (.iconst (-1), 0, 0, (-1)), (.istore 6, 6, 0, 0), (.iconst (-1), 0, 0, (-1)), (.istore 7, 7, 0, 0), (.iconst 0, 0, 0, 0), (.istore 8, 8, 0, 0)]) (pc1 := 38) (lo1 := [(8, .int 0), (7, .int (-1)), (6, .int (-1)), (5, .int 0), (4, .int 0), (3, .int (nI (3 * k + κ))), (0, .ref 0), (1, .int (nI k)), (2, .int (nI κ))]) (st1 := []) (w1 := (WM (va_up MA 24 (upd (MA 24) (3 * k + κ) 1)) MS Mh v)) (by decide +kernel) rfl ?_
    refine M.lsub [6, 7, 8, 5, 4, 3, 2, 1, 0] (lo1 := [(0, .ref 0), (1, .int (nI k)), (2, .int (nI κ)), (3, .int (nI (3 * k + κ))), (4, .int 0), (5, .int 0), (6, .int (-1)), (7, .int (-1)), (8, .int 0)]) rfl ?_
    exact lp (ptsN κ) 0 (-1) MS (by omega) (Or.inl ⟨rfl, rfl⟩) (fun _ _ => rfl) (show (-1 : Int32) ≤ -1 by decide)
  · exact M.retv (nx := 16) (by decide +kernel) ⟨MA 24, MA 25, MS, by rw [va_up_id (f := MA) (k := 24) rfl, va_up_id (f := MA) (k := 25) rfl], fun _ _ => rfl, hCa, z12, rfl⟩
end MSEVEN
