section MSIX
variable {MA : Nat → Nat → Int32} {MS : Nat → Int32} {Mh : Int64} {v : List Cl}
def KP (MS MT : Nat → Int32) : Prop := ∀ i, ¬ (9 ≤ i ∧ i ≤ 21) → MT i = MS i
theorem kp_lr {MT : Nat → Int32} (h : ∀ i, ¬ (i = 9 ∨ i = 10 ∨ (17 ≤ i ∧ i ≤ 21)) → MT i = MS i) : KP MS MT := fun i hi => h i (by omega)
theorem kp_lf {MT : Nat → Int32} (h : ∀ i, ¬ (11 ≤ i ∧ i ≤ 16) → MT i = MS i) : KP MS MT := fun i hi => h i (by omega)
theorem KP.tr {MT MU : Nat → Int32} (h : KP MS MT) (h2 : KP MT MU) : KP MS MU := fun i hi => (h2 i hi).trans (h i hi)
theorem kp_ms {r c f h t : Nat} {MT : Nat → Int32} (hu : KP MS MT) (hms : MSok r c f h t MS) : MSok r c f h t MT := by
  unfold MSok
  rw [hu 4 (by omega), hu 5 (by omega), hu 6 (by omega), hu 7 (by omega), hu 8 (by omega)]
  exact hms
theorem on_1 : ∀ k : Fin 25, onA ((1 : Int32) <<< (nI k.val &&& 31)) 25 = 1 := by decide +kernel
theorem on_0 : onA 0 25 = 0 := by decide +kernel
theorem nI_lz {n : Nat} (h : n < 2147483648) : nI n ≤ 0 ↔ n = 0 := by
  rw [Int32.le_iff_toInt_le, nI_toInt h]
  have : (0 : Int32).toInt = 0 := by decide
  omega
theorem rw_y (m f rr b lb ad tu x : Int32) : rwF m f rr b lb ad tu x 0 = (if m ≤ 0 then -1 else f) ∧ rwF m f rr b lb ad tu x 1 = (if m ≤ 0 then -1 else ad) ∧ rwF m f rr b lb ad tu x 2 = (if m ≤ 0 then -1 else rr ^^^ tu) ∧ rwF m f rr b lb ad tu x 3 = m ∧ rwF m f rr b lb ad tu x 4 = (if m ≤ 0 then 0 else 1) :=
  ⟨if_pos rfl, (if_neg (by decide)).trans (if_pos rfl), (if_neg (by decide)).trans ((if_neg (by decide)).trans (if_pos rfl)), (if_neg (by decide)).trans ((if_neg (by decide)).trans ((if_neg (by decide)).trans (if_pos rfl))), (if_neg (by decide)).trans ((if_neg (by decide)).trans ((if_neg (by decide)).trans ((if_neg (by decide)).trans (if_pos rfl))))⟩
theorem rwo_y (lb : Int32) : rwoF lb 0 = -1 ∧ rwoF lb 1 = -1 ∧ rwoF lb 2 = -1 ∧ rwoF lb 3 = 0 ∧ rwoF lb 4 = 0 ∧ rwoF lb 5 = lb :=
  ⟨(if_neg (by decide)).trans ((if_neg (by decide)).trans (if_neg (by decide))), (if_neg (by decide)).trans ((if_neg (by decide)).trans (if_neg (by decide))), (if_neg (by decide)).trans ((if_neg (by decide)).trans (if_neg (by decide))), if_pos rfl, (if_neg (by decide)).trans (if_pos rfl), (if_neg (by decide)).trans ((if_neg (by decide)).trans (if_pos rfl))⟩
theorem lr_val {r c f h t : Nat} (hg : GeoOk r c f h t) {k κ p : Nat} (hk : k < r * c) {C MT : Nat → Int32} {sl : Nat} (hsl : sl ≤ 64) (hL : LR r c k κ p C MS MT sl) :
    (MT 17 = if (smS κ p (tauG r c k) C sl).2.2.2.2.1 ≤ 0 then -1 else (smS κ p (tauG r c k) C sl).2.2.2.2.2.1) ∧ ((smS κ p (tauG r c k) C sl).2.2.2.2.1 ≤ 0 ↔ MT 20 = 0) ∧ (¬ MT 20 = 0 → MT 19 = (smS κ p (tauG r c k) C sl).2.2.2.2.2.2 ∧ MT 18 = nI k) ∧ MT 20 = (smS κ p (tauG r c k) C sl).2.2.2.2.1 ∧ (onA (MT 21) 25 = if (smS κ p (tauG r c k) C sl).2.2.2.2.1 ≤ 0 then 0 else 1) ∧ MT 9 = (lbN r c C sl &&& ((1 <<< (nI k &&& 31)) ^^^ (-1))) ||| ((smS κ p (tauG r c k) C sl).2.2.2.1 <<< (nI k &&& 31)) := by
  have h25 : r * c ≤ 25 := Nat.mul_le_mul hg.1.2 hg.2.1.2
  obtain ⟨l1, ⟨b1, b2, b3, b4, b5⟩, l3, ⟨n, n1, n2, n3⟩, l5, l6⟩ := hL
  have b2' : (smS κ p (tauG r c k) C sl).2.2.2.1 = nI (bN (MT 9) k) := b2
  have e1 : (smS κ p (tauG r c k) C sl).2.2.2.2.1 ≤ 0 ↔ MT 20 = 0 := by
    rw [n3, n2, nI_lz (by omega)]
    constructor
    · intro e; rw [e]; rfl
    · intro e; exact nI_inj (b := 0) (by omega) (by decide) e
  refine ⟨?_, e1, fun e => ⟨(l6 e).2.1, (l6 e).2.2.1⟩, by rw [n2, n3], ?_, ?_⟩
  · by_cases e : MT 20 = 0
    · rw [if_pos (e1.mpr e)]; exact (l5 e).1
    · rw [if_neg (fun h => e (e1.mp h))]; exact (l6 e).1
  · by_cases e : MT 20 = 0
    · rw [if_pos (e1.mpr e), (l5 e).2]; exact on_0
    · rw [if_neg (fun h => e (e1.mp h)), (l6 e).2.2.2]; exact on_1 ⟨k, by omega⟩
  · rw [b2', ← l3]
    refine b_ext (fun i hi => ?_)
    rw [b_or, b_and, b_xor, b_m1 i hi, b_1shl (by omega) hi, b_shl k (by omega) _ hi]
    by_cases e : i = k
    · subst e
      rw [decide_eq_true rfl, decide_eq_true (Nat.le_refl _), Nat.sub_self, b_nI01 (bN_2 _ _) 0 (by decide), bt_d]
      cases bt (MT 10) i <;> cases bt (MT 9) i <;> rfl
    · rw [decide_eq_false e, b3 i hi e]
      by_cases e2 : k ≤ i
      · rw [b_nI01 (bN_2 _ _) (i - k) (by omega), decide_eq_false (show ¬ i - k = 0 by omega)]
        cases bt (MT 10) i <;> simp
      · rw [decide_eq_false e2]
        cases bt (MT 10) i <;> rfl
theorem wo_out {y : Int32} (h : withF y 0 5 = 0) : outY y 5 := by
  unfold withF at h
  unfold outY
  by_cases h1 : y < 0
  · exact Or.inl h1
  · rw [if_neg h1] at h
    by_cases h2 : 5 < y
    · exact Or.inr h2
    · rw [if_neg h2] at h; exact absurd h (by decide)
theorem wo_in {y : Int32} (h : ¬ withF y 0 5 = 0) : ¬ outY y 5 := by
  unfold withF at h
  unfold outY
  rintro (h1 | h1)
  · exact h (if_pos h1)
  · refine h ?_
    by_cases h2 : y < 0
    · exact if_pos h2
    · rw [if_neg h2, if_pos h1]
theorem y_five {y : Int32} (h : ¬ outY y 5) (h2 : y.toInt < 0 ∨ 0 + (([40, 45, 65, 90, 95] : List Nat).length : Int) ≤ y.toInt) : y = 5 := by
  unfold outY at h
  rw [Int32.lt_iff_toInt_lt, Int32.lt_iff_toInt_lt] at h
  have e0 : (0 : Int32).toInt = 0 := by decide
  have e5 : (5 : Int32).toInt = 5 := by decide
  simp only [List.length_cons, List.length_nil] at h2
  exact Int32.toInt_inj.mp (by omega)
theorem m_runNow {r c f h t : Nat} (hgeo : GeoOk r c f h t) (hms : MSok r c f h t MS) {sl : Nat} (hsl : sl ≤ 64) (h2 : MS 2 = nI sl) (hC : ∀ j, j < sl → sgnB (MA 3 j) = true) {k κ p : Nat} (hfs : FS k κ p MS) (hk : k < r * c) (h3 : κ < 3) (hp : p < ptsN κ) (h22 : MS 22 = 0) {a : Nat} (ha : a < r * c) (hka : (f * a + h) % (r * c) = k) (y : Int32) : CC 7 mX4_runNow 0 0 [.ref 0, .int y] (WM MA MS Mh v) (fun r0 w1 => ∃ MT, w1 = (WM MA MT Mh v) ∧ KP MS MT ∧ r0 = some (.int (rwF (smS κ p (tauG r c k) (MA 3) sl).2.2.2.2.1 (smS κ p (tauG r c k) (MA 3) sl).2.2.2.2.2.1 (smS κ p (tauG r c k) (MA 3) sl).2.2.2.2.2.2 (smS κ p (tauG r c k) (MA 3) sl).2.2.2.1 (lbN r c (MA 3) sl) (nI a) ((nI t >>> (nI (k / c) &&& 31)) &&& 1) (nI k) y))) := by
  have h25 : r * c ≤ 25 := Nat.mul_le_mul hgeo.1.2 hgeo.2.1.2
  have h9a : 9 ≤ r * c := Nat.mul_le_mul hgeo.1.1 hgeo.2.1.1
  refine CC.of okX4_runNow.1 (Nat.le_of_ble_eq_true rfl) (fun g M => ?_)
  show g 0 0 0 [(0, .ref 0), (1, .int y)] [] (WM MA MS Mh v)
  refine M.blk (is := [(.aload_n 0, 0, 0, 0)]) (pc1 := 1) (lo1 := [(0, .ref 0), (1, .int y)]) (st1 := [.ref 0]) (w1 := (WM MA MS Mh v)) (by decide +kernel) rfl ?_
  refine M.callV (as := []) (st := []) (nx := 4) okX4_layRun lkX4_171 (m_layRun hgeo hms hsl h2 hC hfs hk h3 hp h22) (by decide +kernel) (by decide) rfl (Nat.le_of_ble_eq_true rfl) rfl (by decide) ⟨by decide, by decide⟩ ?_
  intro r0 w1 hq
  obtain ⟨MT, rfl, hL, rfl⟩ := hq
  obtain ⟨v1, v2, v3, v4, v5, v6⟩ := lr_val hgeo hk hsl hL
  have hms2 := keep_ms hL.1 hms
  show g 0 0 4 [(0, .ref 0), (1, .int y)] [] (WM MA MT Mh v)
  refine M.blk (is := [(.iload_n 1, 1, 0, 0)]) (pc1 := 5) (lo1 := [(0, .ref 0), (1, .int y)]) (st1 := [.int y]) (w1 := (WM MA MT Mh v)) (by decide +kernel) rfl ?_
  refine M.tsw (dflt := 98) (a := 0) (b := 4) (offs := #[35, 40, 60, 85, 90]) (len := 35) (tg := [40, 45, 65, 90, 95]) (dt := 103) (by decide +kernel) (fun j t hj hx5 => ?_) (fun hx5 => ?_)
  · match j, hj, hx5 with
    | 0, hj, hx5 =>
      cases hj
      have hx5 : y = 0 := i32_of hx5 (by decide)
      subst hx5
      refine M.blk (is := [(.aload_n 0, 0, 0, 0), (.getfield 145, 4, 17, 0)]) (pc1 := 44) (lo1 := [(0, .ref 0), (1, .int 0)]) (st1 := [.int (MT 17)]) (w1 := (WM MA MT Mh v)) (by decide +kernel) rfl ?_
      exact M.reti (nx := 45) (by decide +kernel) ⟨MT, rfl, kp_lr hL.1, congrArg (fun x => some (Value.int x)) (v1.trans (rw_y _ _ _ _ _ _ _ _).1.symm)⟩
    | 1, hj, hx5 =>
      cases hj
      have hx5 : y = 1 := i32_of hx5 (by decide)
      subst hx5
      refine M.blk (is := [(.aload_n 0, 0, 0, 0), (.getfield 139, 4, 20, 0)]) (pc1 := 49) (lo1 := [(0, .ref 0), (1, .int 1)]) (st1 := [.int (MT 20)]) (w1 := (WM MA MT Mh v)) (by decide +kernel) rfl ?_
      refine M.if_ne (off := 7) (tgt := 56) (nx := 52) (by decide +kernel) (fun z49 => ?_) (fun z49 => ?_)
      · refine M.blk (is := [(.aload_n 0, 0, 0, 0), (.aload_n 0, 0, 0, 0), (.getfield 142, 4, 18, 0)]) (pc1 := 61) (lo1 := [(0, .ref 0), (1, .int 1)]) (st1 := [.int (MT 18), .ref 0]) (w1 := (WM MA MT Mh v)) (by decide +kernel) rfl ?_
        rw [(v3 z49).2]
        refine M.callVi (as := [.int (nI k)]) (st := []) (nx := 64) okX4_addressOf lkX4_77 (m_addressOf (MS := MT) hgeo hms2 ha hka) (by decide +kernel) (by decide) rfl (Nat.le_of_ble_eq_true rfl) rfl (by decide) ?_
        exact M.reti (nx := 65) (by decide +kernel) ⟨MT, rfl, kp_lr hL.1, congrArg (fun x => some (Value.int x)) ((if_neg (fun h => z49 (v2.mp h))).symm.trans (rw_y _ _ _ _ _ _ _ _).2.1.symm)⟩
      · refine M.blk (is := [(.iconst (-1), 0, 0, (-1)), (.goto 11, 64, 0, 0)]) (pc1 := 64) (lo1 := [(0, .ref 0), (1, .int 1)]) (st1 := [.int (-1)]) (w1 := (WM MA MT Mh v)) (by decide +kernel) rfl ?_
        exact M.reti (nx := 65) (by decide +kernel) ⟨MT, rfl, kp_lr hL.1, congrArg (fun x => some (Value.int x)) ((if_pos (v2.mpr z49)).symm.trans (rw_y _ _ _ _ _ _ _ _).2.1.symm)⟩
    | 2, hj, hx5 =>
      cases hj
      have hx5 : y = 2 := i32_of hx5 (by decide)
      subst hx5
      refine M.blk (is := [(.aload_n 0, 0, 0, 0), (.getfield 139, 4, 20, 0)]) (pc1 := 69) (lo1 := [(0, .ref 0), (1, .int 2)]) (st1 := [.int (MT 20)]) (w1 := (WM MA MT Mh v)) (by decide +kernel) rfl ?_
      refine M.if_ne (off := 7) (tgt := 76) (nx := 72) (by decide +kernel) (fun z69 => ?_) (fun z69 => ?_)
      · refine M.blk (is := [(.aload_n 0, 0, 0, 0), (.getfield 148, 4, 19, 0), (.aload_n 0, 0, 0, 0), (.aload_n 0, 0, 0, 0), (.getfield 142, 4, 18, 0)]) (pc1 := 85) (lo1 := [(0, .ref 0), (1, .int 2)]) (st1 := [.int (MT 18), .ref 0, .int (MT 19)]) (w1 := (WM MA MT Mh v)) (by decide +kernel) rfl ?_
        rw [(v3 z69).2]
        refine M.callVi (as := [.int (nI k)]) (st := [.int (MT 19)]) (nx := 88) okX4_isTurned lkX4_80 (m_isTurned (MS := MT) hgeo hms2 hk) (by decide +kernel) (by decide) rfl (Nat.le_of_ble_eq_true rfl) rfl (by decide) ?_
        refine M.blk (is := [(.ixor, 0, 0, 0)]) (pc1 := 89) (lo1 := [(0, .ref 0), (1, .int 2)]) (st1 := [.int ((MT 19) ^^^ ((nI t >>> (nI (k / c) &&& 31)) &&& 1))]) (w1 := (WM MA MT Mh v)) (by decide +kernel) rfl ?_
        exact M.reti (nx := 90) (by decide +kernel) ⟨MT, rfl, kp_lr hL.1, congrArg (fun x => some (Value.int x)) ((congrArg (fun x => x ^^^ ((nI t >>> (nI (k / c) &&& 31)) &&& 1)) (v3 z69).1).trans ((if_neg (fun h => z69 (v2.mp h))).symm.trans (rw_y _ _ _ _ _ _ _ _).2.2.1.symm))⟩
      · refine M.blk (is := [(.iconst (-1), 0, 0, (-1)), (.goto 16, 89, 0, 0)]) (pc1 := 89) (lo1 := [(0, .ref 0), (1, .int 2)]) (st1 := [.int (-1)]) (w1 := (WM MA MT Mh v)) (by decide +kernel) rfl ?_
        exact M.reti (nx := 90) (by decide +kernel) ⟨MT, rfl, kp_lr hL.1, congrArg (fun x => some (Value.int x)) ((if_pos (v2.mpr z69)).symm.trans (rw_y _ _ _ _ _ _ _ _).2.2.1.symm)⟩
    | 3, hj, hx5 =>
      cases hj
      have hx5 : y = 3 := i32_of hx5 (by decide)
      subst hx5
      refine M.blk (is := [(.aload_n 0, 0, 0, 0), (.getfield 139, 4, 20, 0)]) (pc1 := 94) (lo1 := [(0, .ref 0), (1, .int 3)]) (st1 := [.int (MT 20)]) (w1 := (WM MA MT Mh v)) (by decide +kernel) rfl ?_
      exact M.reti (nx := 95) (by decide +kernel) ⟨MT, rfl, kp_lr hL.1, congrArg (fun x => some (Value.int x)) (v4.trans (rw_y _ _ _ _ _ _ _ _).2.2.2.1.symm)⟩
    | 4, hj, hx5 =>
      cases hj
      have hx5 : y = 4 := i32_of hx5 (by decide)
      subst hx5
      refine M.blk (is := [(.aload_n 0, 0, 0, 0), (.getfield 151, 4, 21, 0)]) (pc1 := 99) (lo1 := [(0, .ref 0), (1, .int 4)]) (st1 := [.int (MT 21)]) (w1 := (WM MA MT Mh v)) (by decide +kernel) rfl ?_
      refine M.callSi (as := [.int (MT 21)]) (st := []) (nx := 102) okX4_ones lkX4_174 (s_ones (WM MA MT Mh v) (MT 21)) (by decide +kernel) (by decide) rfl (Nat.le_of_ble_eq_true rfl) ?_
      exact M.reti (nx := 103) (by decide +kernel) ⟨MT, rfl, kp_lr hL.1, congrArg (fun x => some (Value.int x)) (v5.trans (rw_y _ _ _ _ _ _ _ _).2.2.2.2.symm)⟩
    | j + 5, hj, _ => exact absurd hj (by simp)
  · refine M.blk (is := [(.aload_n 0, 0, 0, 0), (.getfield 92, 4, 9, 0)]) (pc1 := 107) (lo1 := [(0, .ref 0), (1, .int y)]) (st1 := [.int (MT 9)]) (w1 := (WM MA MT Mh v)) (by decide +kernel) rfl ?_
    exact M.reti (nx := 108) (by decide +kernel) ⟨MT, rfl, kp_lr hL.1, congrArg (fun x => some (Value.int x)) (v6.trans (rw_out hx5).symm)⟩
theorem m_runNowN {r c f h t : Nat} (hgeo : GeoOk r c f h t) (hms : MSok r c f h t MS) {sl : Nat} (hsl : sl ≤ 64) (h2 : MS 2 = nI sl) (hC : ∀ j, j < sl → sgnB (MA 3 j) = true) (h11 : MS 11 = -1) (h22 : MS 22 = 0) {y : Int32} (hy : ¬ outY y 5) : CC 7 mX4_runNow 0 0 [.ref 0, .int y] (WM MA MS Mh v) (fun r0 w1 => ∃ MT, w1 = (WM MA MT Mh v) ∧ KP MS MT ∧ r0 = some (.int (rwoF (lbN r c (MA 3) sl) y))) := by
  have h25 : r * c ≤ 25 := Nat.mul_le_mul hgeo.1.2 hgeo.2.1.2
  have h9a : 9 ≤ r * c := Nat.mul_le_mul hgeo.1.1 hgeo.2.1.1
  refine CC.of okX4_runNow.1 (Nat.le_of_ble_eq_true rfl) (fun g M => ?_)
  show g 0 0 0 [(0, .ref 0), (1, .int y)] [] (WM MA MS Mh v)
  refine M.blk (is := [(.aload_n 0, 0, 0, 0)]) (pc1 := 1) (lo1 := [(0, .ref 0), (1, .int y)]) (st1 := [.ref 0]) (w1 := (WM MA MS Mh v)) (by decide +kernel) rfl ?_
  refine M.callV (as := []) (st := []) (nx := 4) okX4_layRun lkX4_171 (m_layRunN hgeo hms hsl h2 hC h11 h22) (by decide +kernel) (by decide) rfl (Nat.le_of_ble_eq_true rfl) rfl (by decide) ⟨by decide, by decide⟩ ?_
  intro r0 w1 hq
  obtain ⟨MT, rfl, hL, rfl⟩ := hq
  obtain ⟨_, l2, l3, _, _, l6, l7, l8⟩ := id hL
  show g 0 0 4 [(0, .ref 0), (1, .int y)] [] (WM MA MT Mh v)
  refine M.blk (is := [(.iload_n 1, 1, 0, 0)]) (pc1 := 5) (lo1 := [(0, .ref 0), (1, .int y)]) (st1 := [.int y]) (w1 := (WM MA MT Mh v)) (by decide +kernel) rfl ?_
  refine M.tsw (dflt := 98) (a := 0) (b := 4) (offs := #[35, 40, 60, 85, 90]) (len := 35) (tg := [40, 45, 65, 90, 95]) (dt := 103) (by decide +kernel) (fun j t hj hx5 => ?_) (fun hx5 => ?_)
  · match j, hj, hx5 with
    | 0, hj, hx5 =>
      cases hj
      have hx5 : y = 0 := i32_of hx5 (by decide)
      subst hx5
      refine M.blk (is := [(.aload_n 0, 0, 0, 0), (.getfield 145, 4, 17, 0)]) (pc1 := 44) (lo1 := [(0, .ref 0), (1, .int 0)]) (st1 := [.int (MT 17)]) (w1 := (WM MA MT Mh v)) (by decide +kernel) rfl ?_
      exact M.reti (nx := 45) (by decide +kernel) ⟨MT, rfl, kp_lr hL.1, congrArg (fun x => some (Value.int x)) (l7.trans (rwo_y _).1.symm)⟩
    | 1, hj, hx5 =>
      cases hj
      have hx5 : y = 1 := i32_of hx5 (by decide)
      subst hx5
      refine M.blk (is := [(.aload_n 0, 0, 0, 0), (.getfield 139, 4, 20, 0)]) (pc1 := 49) (lo1 := [(0, .ref 0), (1, .int 1)]) (st1 := [.int (MT 20)]) (w1 := (WM MA MT Mh v)) (by decide +kernel) rfl ?_
      refine M.if_ne (off := 7) (tgt := 56) (nx := 52) (by decide +kernel) (fun z49 => by exfalso; exact z49 l6) (fun z49 => ?_)
      refine M.blk (is := [(.iconst (-1), 0, 0, (-1)), (.goto 11, 64, 0, 0)]) (pc1 := 64) (lo1 := [(0, .ref 0), (1, .int 1)]) (st1 := [.int (-1)]) (w1 := (WM MA MT Mh v)) (by decide +kernel) rfl ?_
      exact M.reti (nx := 65) (by decide +kernel) ⟨MT, rfl, kp_lr hL.1, congrArg (fun x => some (Value.int x)) ((rwo_y _).2.1.symm)⟩
    | 2, hj, hx5 =>
      cases hj
      have hx5 : y = 2 := i32_of hx5 (by decide)
      subst hx5
      refine M.blk (is := [(.aload_n 0, 0, 0, 0), (.getfield 139, 4, 20, 0)]) (pc1 := 69) (lo1 := [(0, .ref 0), (1, .int 2)]) (st1 := [.int (MT 20)]) (w1 := (WM MA MT Mh v)) (by decide +kernel) rfl ?_
      refine M.if_ne (off := 7) (tgt := 76) (nx := 72) (by decide +kernel) (fun z69 => by exfalso; exact z69 l6) (fun z69 => ?_)
      refine M.blk (is := [(.iconst (-1), 0, 0, (-1)), (.goto 16, 89, 0, 0)]) (pc1 := 89) (lo1 := [(0, .ref 0), (1, .int 2)]) (st1 := [.int (-1)]) (w1 := (WM MA MT Mh v)) (by decide +kernel) rfl ?_
      exact M.reti (nx := 90) (by decide +kernel) ⟨MT, rfl, kp_lr hL.1, congrArg (fun x => some (Value.int x)) ((rwo_y _).2.2.1.symm)⟩
    | 3, hj, hx5 =>
      cases hj
      have hx5 : y = 3 := i32_of hx5 (by decide)
      subst hx5
      refine M.blk (is := [(.aload_n 0, 0, 0, 0), (.getfield 139, 4, 20, 0)]) (pc1 := 94) (lo1 := [(0, .ref 0), (1, .int 3)]) (st1 := [.int (MT 20)]) (w1 := (WM MA MT Mh v)) (by decide +kernel) rfl ?_
      exact M.reti (nx := 95) (by decide +kernel) ⟨MT, rfl, kp_lr hL.1, congrArg (fun x => some (Value.int x)) (l6.trans (rwo_y _).2.2.2.1.symm)⟩
    | 4, hj, hx5 =>
      cases hj
      have hx5 : y = 4 := i32_of hx5 (by decide)
      subst hx5
      refine M.blk (is := [(.aload_n 0, 0, 0, 0), (.getfield 151, 4, 21, 0)]) (pc1 := 99) (lo1 := [(0, .ref 0), (1, .int 4)]) (st1 := [.int (MT 21)]) (w1 := (WM MA MT Mh v)) (by decide +kernel) rfl ?_
      refine M.callSi (as := [.int (MT 21)]) (st := []) (nx := 102) okX4_ones lkX4_174 (s_ones (WM MA MT Mh v) (MT 21)) (by decide +kernel) (by decide) rfl (Nat.le_of_ble_eq_true rfl) ?_
      exact M.reti (nx := 103) (by decide +kernel) ⟨MT, rfl, kp_lr hL.1, congrArg (fun x => some (Value.int x)) ((by rw [l8]; exact on_0.trans (rwo_y _).2.2.2.2.1.symm))⟩
    | j + 5, hj, _ => exact absurd hj (by simp)
  · refine M.blk (is := [(.aload_n 0, 0, 0, 0), (.getfield 92, 4, 9, 0)]) (pc1 := 107) (lo1 := [(0, .ref 0), (1, .int y)]) (st1 := [.int (MT 9)]) (w1 := (WM MA MT Mh v)) (by decide +kernel) rfl ?_
    exact M.reti (nx := 108) (by decide +kernel) ⟨MT, rfl, kp_lr hL.1, congrArg (fun x => some (Value.int x)) ((by rw [y_five hy hx5]; exact (l2.trans l3).trans (rwo_y _).2.2.2.2.2.symm))⟩
theorem m_run_none {r c f h t : Nat} (hgeo : GeoOk r c f h t) (hms : MSok r c f h t MS) {sl : Nat} (hsl : sl ≤ 64) (h2 : MS 2 = nI sl) (hC : ∀ j, j < sl → sgnB (MA 3 j) = true) (h22 : MS 22 = 0) (y : Int32) : CC 8 mX4_run 0 0 [.ref 0, .int (-1), .int y] (WM MA MS Mh v) (fun r0 w1 => (∃ MT, w1 = (WM MA MT Mh v) ∧ KP MS MT) ∧ ((outY y 5 ∧ r0 = some (.int (-1002))) ∨ (¬ outY y 5 ∧ r0 = some (.int (rwoF (lbN r c (MA 3) sl) y))))) := by
  have h25 : r * c ≤ 25 := Nat.mul_le_mul hgeo.1.2 hgeo.2.1.2
  have h9a : 9 ≤ r * c := Nat.mul_le_mul hgeo.1.1 hgeo.2.1.1
  refine CC.of okX4_run.1 (Nat.le_of_ble_eq_true rfl) (fun g M => ?_)
  show g 0 0 0 [(0, .ref 0), (1, .int (-1)), (2, .int y)] [] (WM MA MS Mh v)
  refine M.blk (is := [(.aload_n 0, 0, 0, 0), (.iload_n 1, 1, 0, 0)]) (pc1 := 2) (lo1 := [(0, .ref 0), (1, .int (-1)), (2, .int y)]) (st1 := [.int (-1), .ref 0]) (w1 := (WM MA MS Mh v)) (by decide +kernel) rfl ?_
  refine M.callVi (as := [.int (-1)]) (st := []) (nx := 5) okX4_layFault lkX4_177 (m_layNone (MS := MS)) (by decide +kernel) (by decide) rfl (Nat.le_of_ble_eq_true rfl) rfl (by decide) ?_
  show g 0 0 5 [(0, .ref 0), (1, .int (-1)), (2, .int y)] [.int 1] (WM MA (upd MS 11 (-1)) Mh v)
  refine M.if_ne (off := 7) (tgt := 12) (nx := 8) (by decide +kernel) (fun _ => ?_) (fun h => absurd h (by decide))
  refine M.blk (is := [(.iload_n 2, 2, 0, 0), (.iconst 0, 0, 0, 0), (.iconst 5, 0, 0, 5)]) (pc1 := 15) (lo1 := [(0, .ref 0), (1, .int (-1)), (2, .int y)]) (st1 := [.int 5, .int 0, .int y]) (w1 := (WM MA (upd MS 11 (-1)) Mh v)) (by decide +kernel) rfl ?_
  refine M.callSi (as := [.int y, .int 0, .int 5]) (st := []) (nx := 18) okX4_within lkX4_36 (s_within (WM MA (upd MS 11 (-1)) Mh v) y 0 5) (by decide +kernel) (by decide) rfl (Nat.le_of_ble_eq_true rfl) ?_
  refine M.if_eq (off := 11) (tgt := 29) (nx := 21) (by decide +kernel) (fun z18 => ?_) (fun z18 => ?_)
  · refine M.blk (is := [(.sipush (-1002), 0, 0, (-1002))]) (pc1 := 32) (lo1 := [(0, .ref 0), (1, .int (-1)), (2, .int y)]) (st1 := [.int (-1002)]) (w1 := (WM MA (upd MS 11 (-1)) Mh v)) (by decide +kernel) rfl ?_
    exact M.reti (nx := 33) (by decide +kernel) ⟨⟨_, rfl, (fun i hi => by rw [pk_un (by omega)])⟩, Or.inl ⟨wo_out z18, rfl⟩⟩
  · refine M.blk (is := [(.aload_n 0, 0, 0, 0), (.iload_n 2, 2, 0, 0)]) (pc1 := 23) (lo1 := [(0, .ref 0), (1, .int (-1)), (2, .int y)]) (st1 := [.int y, .ref 0]) (w1 := (WM MA (upd MS 11 (-1)) Mh v)) (by decide +kernel) rfl ?_
    refine M.callV (as := [.int y]) (st := []) (nx := 26) okX4_runNow lkX4_180 (m_runNowN (MS := upd MS 11 (-1)) hgeo hms hsl h2 hC rfl h22 (wo_in z18)) (by decide +kernel) (by decide) rfl (Nat.le_of_ble_eq_true rfl) rfl (by decide) ⟨by decide, by decide⟩ ?_
    intro r0 w1 hq
    obtain ⟨MT, rfl, hK, rfl⟩ := hq
    show g 0 0 26 [(0, .ref 0), (1, .int (-1)), (2, .int y)] [.int (rwoF (lbN r c (MA 3) sl) y)] (WM MA MT Mh v)
    refine M.blk (is := [(.goto 6, 32, 0, 0)]) (pc1 := 32) (lo1 := [(0, .ref 0), (1, .int (-1)), (2, .int y)]) (st1 := [.int (rwoF (lbN r c (MA 3) sl) y)]) (w1 := (WM MA MT Mh v)) (by decide +kernel) rfl ?_
    exact M.reti (nx := 33) (by decide +kernel) ⟨⟨MT, rfl, KP.tr (MT := upd MS 11 (-1)) (fun i hi => by rw [pk_un (by omega)]) hK⟩, Or.inr ⟨wo_in z18, rfl⟩⟩
theorem m_run_neg {F : Int32} (hF : F < 0) (h1 : ¬ F = -1) (y : Int32) : CC 8 mX4_run 0 0 [.ref 0, .int F, .int y] (WM MA MS Mh v) (fun r0 w1 => (∃ MT, w1 = (WM MA MT Mh v) ∧ KP MS MT) ∧ r0 = some (.int (-1001))) := by
  refine CC.of okX4_run.1 (Nat.le_of_ble_eq_true rfl) (fun g M => ?_)
  show g 0 0 0 [(0, .ref 0), (1, .int F), (2, .int y)] [] (WM MA MS Mh v)
  refine M.blk (is := [(.aload_n 0, 0, 0, 0), (.iload_n 1, 1, 0, 0)]) (pc1 := 2) (lo1 := [(0, .ref 0), (1, .int F), (2, .int y)]) (st1 := [.int F, .ref 0]) (w1 := (WM MA MS Mh v)) (by decide +kernel) rfl ?_
  refine M.callV (as := [.int F]) (st := []) (nx := 5) okX4_layFault lkX4_177 (m_layNeg hF h1) (by decide +kernel) (by decide) rfl (Nat.le_of_ble_eq_true rfl) rfl (by decide) ⟨by decide, by decide⟩ ?_
  intro r0 w1 hq
  obtain ⟨MT, rfl, hu, rfl⟩ := hq
  show g 0 0 5 [(0, .ref 0), (1, .int F), (2, .int y)] [.int 0] (WM MA MT Mh v)
  refine M.if_ne (off := 7) (tgt := 12) (nx := 8) (by decide +kernel) (fun h => absurd h (by decide)) (fun _ => ?_)
  refine M.blk (is := [(.sipush (-1001), 0, 0, (-1001))]) (pc1 := 11) (lo1 := [(0, .ref 0), (1, .int F), (2, .int y)]) (st1 := [.int (-1001)]) (w1 := (WM MA MT Mh v)) (by decide +kernel) rfl ?_
  exact M.reti (nx := 12) (by decide +kernel) ⟨⟨MT, rfl, kp_lf hu⟩, rfl⟩
theorem m_run_num {r c f h t : Nat} (hgeo : GeoOk r c f h t) (hms : MSok r c f h t MS) {sl : Nat} (hsl : sl ≤ 64) (h2 : MS 2 = nI sl) (hC : ∀ j, j < sl → sgnB (MA 3 j) = true) (h22 : MS 22 = 0) {N : Nat} (hN : N < 2147483648) {a : Nat} (ha : fltN r c N = true → a < r * c ∧ (f * a + h) % (r * c) = N / 1000) (y : Int32) : CC 8 mX4_run 0 0 [.ref 0, .int (nI N), .int y] (WM MA MS Mh v) (fun r0 w1 => (∃ MT, w1 = (WM MA MT Mh v) ∧ KP MS MT) ∧ ((fltN r c N = false ∧ r0 = some (.int (-1001))) ∨ (fltN r c N = true ∧ outY y 5 ∧ r0 = some (.int (-1002))) ∨ (fltN r c N = true ∧ ¬ outY y 5 ∧ r0 = some (.int (rwF (smS (N % 1000 / 300) (N % 1000 % 300) (tauG r c (N / 1000)) (MA 3) sl).2.2.2.2.1 (smS (N % 1000 / 300) (N % 1000 % 300) (tauG r c (N / 1000)) (MA 3) sl).2.2.2.2.2.1 (smS (N % 1000 / 300) (N % 1000 % 300) (tauG r c (N / 1000)) (MA 3) sl).2.2.2.2.2.2 (smS (N % 1000 / 300) (N % 1000 % 300) (tauG r c (N / 1000)) (MA 3) sl).2.2.2.1 (lbN r c (MA 3) sl) (nI a) ((nI t >>> (nI ((N / 1000) / c) &&& 31)) &&& 1) (nI (N / 1000)) y))))) := by
  have h25 : r * c ≤ 25 := Nat.mul_le_mul hgeo.1.2 hgeo.2.1.2
  have h9a : 9 ≤ r * c := Nat.mul_le_mul hgeo.1.1 hgeo.2.1.1
  refine CC.of okX4_run.1 (Nat.le_of_ble_eq_true rfl) (fun g M => ?_)
  show g 0 0 0 [(0, .ref 0), (1, .int (nI N)), (2, .int y)] [] (WM MA MS Mh v)
  refine M.blk (is := [(.aload_n 0, 0, 0, 0), (.iload_n 1, 1, 0, 0)]) (pc1 := 2) (lo1 := [(0, .ref 0), (1, .int (nI N)), (2, .int y)]) (st1 := [.int (nI N), .ref 0]) (w1 := (WM MA MS Mh v)) (by decide +kernel) rfl ?_
  refine M.callV (as := [.int (nI N)]) (st := []) (nx := 5) okX4_layFault lkX4_177 (m_layNum hgeo hms hN) (by decide +kernel) (by decide) rfl (Nat.le_of_ble_eq_true rfl) rfl (by decide) ⟨by decide, by decide⟩ ?_
  intro r0 w1 hq
  obtain ⟨MT, rfl, hu, rfl, hfs⟩ := hq
  have hK := kp_lf hu
  have hms2 := kp_ms hK hms
  show g 0 0 5 [(0, .ref 0), (1, .int (nI N)), (2, .int y)] [.int (b2i (fltN r c N))] (WM MA MT Mh v)
  refine M.if_ne (off := 7) (tgt := 12) (nx := 8) (by decide +kernel) (fun z5 => ?_) (fun z5 => ?_)
  · refine M.blk (is := [(.iload_n 2, 2, 0, 0), (.iconst 0, 0, 0, 0), (.iconst 5, 0, 0, 5)]) (pc1 := 15) (lo1 := [(0, .ref 0), (1, .int (nI N)), (2, .int y)]) (st1 := [.int 5, .int 0, .int y]) (w1 := (WM MA MT Mh v)) (by decide +kernel) rfl ?_
    refine M.callSi (as := [.int y, .int 0, .int 5]) (st := []) (nx := 18) okX4_within lkX4_36 (s_within (WM MA MT Mh v) y 0 5) (by decide +kernel) (by decide) rfl (Nat.le_of_ble_eq_true rfl) ?_
    refine M.if_eq (off := 11) (tgt := 29) (nx := 21) (by decide +kernel) (fun z18 => ?_) (fun z18 => ?_)
    · refine M.blk (is := [(.sipush (-1002), 0, 0, (-1002))]) (pc1 := 32) (lo1 := [(0, .ref 0), (1, .int (nI N)), (2, .int y)]) (st1 := [.int (-1002)]) (w1 := (WM MA MT Mh v)) (by decide +kernel) rfl ?_
      exact M.reti (nx := 33) (by decide +kernel) ⟨⟨MT, rfl, hK⟩, Or.inr (Or.inl ⟨b2i_t z5, wo_out z18, rfl⟩)⟩
    · have hft := b2i_t z5
      have hN1 : N / 1000 < r * c := by unfold fltN at hft; rw [Bool.and_eq_true] at hft; exact of_decide_eq_true hft.1
      have hN3 : N % 1000 % 300 < ptsN (N % 1000 / 300) := by unfold fltN at hft; rw [Bool.and_eq_true] at hft; exact isPt_lt hft.2
      have hN2 : N % 1000 / 300 < 3 := pts_lt3 hN3 (by omega)
      refine M.blk (is := [(.aload_n 0, 0, 0, 0), (.iload_n 2, 2, 0, 0)]) (pc1 := 23) (lo1 := [(0, .ref 0), (1, .int (nI N)), (2, .int y)]) (st1 := [.int y, .ref 0]) (w1 := (WM MA MT Mh v)) (by decide +kernel) rfl ?_
      refine M.callV (as := [.int y]) (st := []) (nx := 26) okX4_runNow lkX4_180 (m_runNow (MS := MT) hgeo hms2 hsl ((hK 2 (by omega)).trans h2) hC (hfs (b2i_t z5)) hN1 hN2 hN3 ((hK 22 (by omega)).trans h22) (ha (b2i_t z5)).1 (ha (b2i_t z5)).2 y) (by decide +kernel) (by decide) rfl (Nat.le_of_ble_eq_true rfl) rfl (by decide) ⟨by decide, by decide⟩ ?_
      intro r0 w1 hq
      obtain ⟨MU, rfl, hK2, rfl⟩ := hq
      show g 0 0 26 [(0, .ref 0), (1, .int (nI N)), (2, .int y)] [.int (rwF (smS (N % 1000 / 300) (N % 1000 % 300) (tauG r c (N / 1000)) (MA 3) sl).2.2.2.2.1 (smS (N % 1000 / 300) (N % 1000 % 300) (tauG r c (N / 1000)) (MA 3) sl).2.2.2.2.2.1 (smS (N % 1000 / 300) (N % 1000 % 300) (tauG r c (N / 1000)) (MA 3) sl).2.2.2.2.2.2 (smS (N % 1000 / 300) (N % 1000 % 300) (tauG r c (N / 1000)) (MA 3) sl).2.2.2.1 (lbN r c (MA 3) sl) (nI a) ((nI t >>> (nI ((N / 1000) / c) &&& 31)) &&& 1) (nI (N / 1000)) y)] (WM MA MU Mh v)
      refine M.blk (is := [(.goto 6, 32, 0, 0)]) (pc1 := 32) (lo1 := [(0, .ref 0), (1, .int (nI N)), (2, .int y)]) (st1 := [.int (rwF (smS (N % 1000 / 300) (N % 1000 % 300) (tauG r c (N / 1000)) (MA 3) sl).2.2.2.2.1 (smS (N % 1000 / 300) (N % 1000 % 300) (tauG r c (N / 1000)) (MA 3) sl).2.2.2.2.2.1 (smS (N % 1000 / 300) (N % 1000 % 300) (tauG r c (N / 1000)) (MA 3) sl).2.2.2.2.2.2 (smS (N % 1000 / 300) (N % 1000 % 300) (tauG r c (N / 1000)) (MA 3) sl).2.2.2.1 (lbN r c (MA 3) sl) (nI a) ((nI t >>> (nI ((N / 1000) / c) &&& 31)) &&& 1) (nI (N / 1000)) y)]) (w1 := (WM MA MU Mh v)) (by decide +kernel) rfl ?_
      exact M.reti (nx := 33) (by decide +kernel) ⟨⟨MU, rfl, KP.tr hK hK2⟩, Or.inr (Or.inr ⟨b2i_t z5, wo_in z18, rfl⟩)⟩
  · refine M.blk (is := [(.sipush (-1001), 0, 0, (-1001))]) (pc1 := 11) (lo1 := [(0, .ref 0), (1, .int (nI N)), (2, .int y)]) (st1 := [.int (-1001)]) (w1 := (WM MA MT Mh v)) (by decide +kernel) rfl ?_
    exact M.reti (nx := 12) (by decide +kernel) ⟨⟨MT, rfl, hK⟩, Or.inl ⟨Bool.eq_false_iff.mpr (b2i_f z5), rfl⟩⟩
end MSIX
