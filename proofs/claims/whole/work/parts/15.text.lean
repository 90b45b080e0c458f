section TEXT
variable {pgC : Nat → Int32} {pgL : Int32} {stC : Nat → Int32} {stL : Int32} {PA : Nat → Nat → Int32} {PS : Nat → Int32} {BA : Nat → Nat → Int32} {BS : Nat → Int32} {u : List Cl}
theorem x_get1 (x : Int32) : CC 0 mX2_get 0 0 [.ref 101, .int x] (WX pgC pgL stC stL PA PS BA BS u) (Rt (sGet pgC pgL x) (WX pgC pgL stC stL PA PS BA BS u)) := s_get1 x
theorem x_get3 (x : Int32) : CC 0 mX2_get 0 0 [.ref 103, .int x] (WX pgC pgL stC stL PA PS BA BS u) (Rt (sGet stC stL x) (WX pgC pgL stC stL PA PS BA BS u)) := s_get3 x
theorem x_clear1 : CC 0 mX2_clear 0 0 [.ref 101] (WX pgC pgL stC stL PA PS BA BS u) (Rv (WX pgC 0 stC stL PA PS BA BS u)) := s_clear1
theorem x_clear3 : CC 0 mX2_clear 0 0 [.ref 103] (WX pgC pgL stC stL PA PS BA BS u) (Rv (WX pgC pgL stC 0 PA PS BA BS u)) := s_clear3
theorem x_add1 {n : Nat} (hn : n < 64) (x : Int32) : CC 0 mX2_add 0 0 [.ref 101, .int x] (WX pgC (nI n) stC stL PA PS BA BS u) (Rv (WX (upd pgC n x) (nI (n + 1)) stC stL PA PS BA BS u)) := s_add1 hn x
theorem x_add3 {n : Nat} (hn : n < 64) (x : Int32) : CC 0 mX2_add 0 0 [.ref 103, .int x] (WX pgC pgL stC (nI n) PA PS BA BS u) (Rv (WX pgC pgL (upd stC n x) (nI (n + 1)) PA PS BA BS u)) := s_add3 hn x
theorem sGet_nI {C : Nat → Int32} {n k : Nat} (hn : n ≤ 64) (hk : k < n) : sGet C (nI n) (nI k) = C k := by
  unfold sGet
  rw [if_neg (nI_pos (by omega)), if_neg (nI_ge hk (by omega)), if_neg (show ¬ (64 : Int32) ≤ nI k from nI_ge (b := 64) (by omega) (by decide)), nI_clamp (by omega)]
def sgnB (x : Int32) : Bool := decide (x = 122) || (decide (x = 111) || (decide (x = 114) || (decide (48 ≤ x) && decide (x ≤ 52))))
def figF (x : Int32) : Int32 := if x < 48 then 0 else if 53 ≤ x then 0 else 1
def flt (C : Nat → Int32) (m k : Nat) : Nat := match m with
  | 0 => k
  | m + 1 => if sgnB (C k) = true then flt C m (k + 1) else k
theorem flt_succ (C : Nat → Int32) (m k : Nat) : flt C (m + 1) k = if sgnB (C k) = true then flt C m (k + 1) else k := rfl
theorem flt_congr {C D : Nat → Int32} : ∀ (m k n : Nat), k + m = n → (∀ j, j < n → C j = D j) → flt C m k = flt D m k
  | 0, _, _, _, _ => rfl
  | m + 1, k, n, h, hc => by
    unfold flt
    rw [hc k (by omega), flt_congr m (k + 1) n (by omega) hc]
theorem flt_ge (C : Nat → Int32) : ∀ m k, k ≤ flt C m k ∧ flt C m k ≤ k + m
  | 0, k => ⟨Nat.le_refl _, Nat.le_refl _⟩
  | m + 1, k => by
    unfold flt
    have h := flt_ge C m (k + 1)
    split <;> omega
theorem flt_all {C : Nat → Int32} : ∀ (m k : Nat), flt C m k = k + m → ∀ j, k ≤ j → j < k + m → sgnB (C j) = true
  | 0, k, _, j, h1, h2 => absurd h2 (by omega)
  | m + 1, k, h, j, h1, h2 => by
    unfold flt at h
    split at h
    · rename_i hs
      by_cases hj : j = k
      · rw [hj]; exact hs
      · exact flt_all m (k + 1) (by omega) j (by omega) (by omega)
    · omega
theorem i32_52 (x : Int32) : x ≤ 52 ↔ ¬ 53 ≤ x := by
  rw [Int32.le_iff_toInt_le, Int32.le_iff_toInt_le]
  have h1 : (52 : Int32).toInt = 52 := by decide
  have h2 : (53 : Int32).toInt = 53 := by decide
  omega
theorem i32_48 (x : Int32) : 48 ≤ x ↔ ¬ x < 48 := by
  rw [Int32.le_iff_toInt_le, Int32.lt_iff_toInt_lt]
  omega
theorem sgnB_fig {x : Int32} (h1 : ¬ x = 122) (h2 : ¬ x = 111) (h3 : ¬ x = 114) : b2i (sgnB x) = figF x := by
  unfold sgnB figF
  rw [decide_eq_false h1, decide_eq_false h2, decide_eq_false h3]
  by_cases h4 : x < 48
  · rw [if_pos h4, decide_eq_false (fun h => (i32_48 x).mp h h4)]; rfl
  · rw [if_neg h4, decide_eq_true ((i32_48 x).mpr h4)]
    by_cases h5 : 53 ≤ x
    · rw [if_pos h5, decide_eq_false (fun h => (i32_52 x).mp h h5)]; rfl
    · rw [if_neg h5, decide_eq_true ((i32_52 x).mpr h5)]; rfl
theorem figF_1 {x : Int32} (h : ¬ figF x = 0) : figF x = 1 := by
  unfold figF at h ⊢
  split
  · rename_i h1; rw [if_pos h1] at h; exact absurd rfl h
  · rename_i h1
    rw [if_neg h1] at h
    split
    · rename_i h2; rw [if_pos h2] at h; exact absurd rfl h
    · rfl
theorem s_isFigure (w0 : Wd) (x : Int32) : CC 0 mX3_isFigure 0 0 [.int x] w0 (Rt (figF x) w0) := by
  refine CC.of okX3_isFigure.1 (Nat.le_of_ble_eq_true rfl) (fun g M => ?_)
  show g 0 0 0 [(0, .int x)] [] w0
  refine M.blk (is := [(.iload_n 0, 0, 0, 0), (.bipush 48, 0, 0, 48)]) (pc1 := 3) (lo1 := [(0, .int x)]) (st1 := [.int 48, .int x]) (w1 := w0) (by decide +kernel) rfl ?_
  refine M.icmp_lt (off := 13) (tgt := 16) (nx := 6) (by decide +kernel) (fun z3 => ?_) (fun z3 => ?_)
  · refine M.blk (is := [(.iconst 0, 0, 0, 0)]) (pc1 := 17) (lo1 := [(0, .int x)]) (st1 := [.int 0]) (w1 := w0) (by decide +kernel) rfl ?_
    exact M.retz (nx := 18) (by decide +kernel) (by decide) ⟨by simp [figF, *], rfl⟩
  · refine M.blk (is := [(.iload_n 0, 0, 0, 0), (.bipush 53, 0, 0, 53)]) (pc1 := 9) (lo1 := [(0, .int x)]) (st1 := [.int 53, .int x]) (w1 := w0) (by decide +kernel) rfl ?_
    refine M.icmp_ge (off := 7) (tgt := 16) (nx := 12) (by decide +kernel) (fun z9 => ?_) (fun z9 => ?_)
    · refine M.blk (is := [(.iconst 0, 0, 0, 0)]) (pc1 := 17) (lo1 := [(0, .int x)]) (st1 := [.int 0]) (w1 := w0) (by decide +kernel) rfl ?_
      exact M.retz (nx := 18) (by decide +kernel) (by decide) ⟨by simp [figF, *], rfl⟩
    · refine M.blk (is := [(.iconst 1, 0, 0, 1), (.goto 4, 17, 0, 0)]) (pc1 := 17) (lo1 := [(0, .int x)]) (st1 := [.int 1]) (w1 := w0) (by decide +kernel) rfl ?_
      exact M.retz (nx := 18) (by decide +kernel) (by decide) ⟨by simp [figF, *], rfl⟩
theorem s_isSign (w0 : Wd) (x : Int32) : CC 1 mX3_isSign 0 0 [.int x] w0 (Rt (b2i (sgnB x)) w0) := by
  refine CC.of okX3_isSign.1 (Nat.le_of_ble_eq_true rfl) (fun g M => ?_)
  show g 0 0 0 [(0, .int x)] [] w0
  refine M.blk (is := [(.iload_n 0, 0, 0, 0), (.bipush 122, 0, 0, 122)]) (pc1 := 3) (lo1 := [(0, .int x)]) (st1 := [.int 122, .int x]) (w1 := w0) (by decide +kernel) rfl ?_
  refine M.icmp_eq (off := 22) (tgt := 25) (nx := 6) (by decide +kernel) (fun z3 => ?_) (fun z3 => ?_)
  · refine M.blk (is := [(.iconst 1, 0, 0, 1), (.goto 4, 30, 0, 0)]) (pc1 := 30) (lo1 := [(0, .int x)]) (st1 := [.int 1]) (w1 := w0) (by decide +kernel) rfl ?_
    exact M.retz (nx := 31) (by decide +kernel) (by decide) ⟨by simp [sgnB, b2i, *], rfl⟩
  · refine M.blk (is := [(.iload_n 0, 0, 0, 0), (.bipush 111, 0, 0, 111)]) (pc1 := 9) (lo1 := [(0, .int x)]) (st1 := [.int 111, .int x]) (w1 := w0) (by decide +kernel) rfl ?_
    refine M.icmp_eq (off := 16) (tgt := 25) (nx := 12) (by decide +kernel) (fun z9 => ?_) (fun z9 => ?_)
    · refine M.blk (is := [(.iconst 1, 0, 0, 1), (.goto 4, 30, 0, 0)]) (pc1 := 30) (lo1 := [(0, .int x)]) (st1 := [.int 1]) (w1 := w0) (by decide +kernel) rfl ?_
      exact M.retz (nx := 31) (by decide +kernel) (by decide) ⟨by simp [sgnB, b2i, *], rfl⟩
    · refine M.blk (is := [(.iload_n 0, 0, 0, 0), (.bipush 114, 0, 0, 114)]) (pc1 := 15) (lo1 := [(0, .int x)]) (st1 := [.int 114, .int x]) (w1 := w0) (by decide +kernel) rfl ?_
      refine M.icmp_eq (off := 10) (tgt := 25) (nx := 18) (by decide +kernel) (fun z15 => ?_) (fun z15 => ?_)
      · refine M.blk (is := [(.iconst 1, 0, 0, 1), (.goto 4, 30, 0, 0)]) (pc1 := 30) (lo1 := [(0, .int x)]) (st1 := [.int 1]) (w1 := w0) (by decide +kernel) rfl ?_
        exact M.retz (nx := 31) (by decide +kernel) (by decide) ⟨by simp [sgnB, b2i, *], rfl⟩
      · refine M.blk (is := [(.iload_n 0, 0, 0, 0)]) (pc1 := 19) (lo1 := [(0, .int x)]) (st1 := [.int x]) (w1 := w0) (by decide +kernel) rfl ?_
        refine M.callSi (as := [.int x]) (st := []) (nx := 22) okX3_isFigure lkX3_185 (s_isFigure w0 x) (by decide +kernel) (by decide) rfl (Nat.le_of_ble_eq_true rfl) ?_
        refine M.if_eq (off := 7) (tgt := 29) (nx := 25) (by decide +kernel) (fun z22 => ?_) (fun z22 => ?_)
        · refine M.blk (is := [(.iconst 0, 0, 0, 0)]) (pc1 := 30) (lo1 := [(0, .int x)]) (st1 := [.int 0]) (w1 := w0) (by decide +kernel) rfl ?_
          exact M.retz (nx := 31) (by decide +kernel) (by decide) ⟨by rw [sgnB_fig z3 z9 z15, z22], rfl⟩
        · refine M.blk (is := [(.iconst 1, 0, 0, 1), (.goto 4, 30, 0, 0)]) (pc1 := 30) (lo1 := [(0, .int x)]) (st1 := [.int 1]) (w1 := w0) (by decide +kernel) rfl ?_
          exact M.retz (nx := 31) (by decide +kernel) (by decide) ⟨by rw [sgnB_fig z3 z9 z15, figF_1 z22], rfl⟩
theorem x_forget : CC 0 mX0_forget 0 0 [.ref 113] (WX pgC pgL stC stL PA PS BA BS u) (Rv (WX pgC pgL stC stL PA PS BA (upd BS 5 0) u)) := by
  refine CC.of okX0_forget.1 (Nat.le_of_ble_eq_true rfl) (fun g M => ?_)
  show g 0 0 0 [(0, .ref 113)] [] (WX pgC pgL stC stL PA PS BA BS u)
  refine M.blk (is := [(.aload_n 0, 0, 0, 0), (.iconst 0, 0, 0, 0)]) (pc1 := 2) (lo1 := [(0, .ref 113)]) (st1 := [.int 0, .ref 113]) (w1 := (WX pgC pgL stC stL PA PS BA BS u)) (by decide +kernel) rfl ?_
  refine M.putz (idx := 27) (a := 0) (b := 5) (nx := 5) (by decide +kernel) rfl (Nat.le_of_ble_eq_true rfl) (by decide) ?_
  show g 0 0 5 [(0, .ref 113)] [] (WX pgC pgL stC stL PA PS BA (upd BS 5 0) u)
  exact M.retv (nx := 6) (by decide +kernel) ⟨rfl, rfl⟩
theorem i32_nle {x y : Int32} (h : ¬ x ≤ y) : y < x := by
  rw [Int32.le_iff_toInt_le] at h
  rw [Int32.lt_iff_toInt_lt]
  omega
theorem i32_out {x : Int32} (h : ¬ x < 32) (h2 : x ≤ 126) : ¬ (x < 32 ∨ 126 < x) := fun e => e.elim h (fun e => i32_nlt e h2)
theorem l60 {pl : Nat} (hp : pl ≤ 60) (h : ¬ nI pl < 60) : pl = 60 := by
  have h1 : ¬ pl < 60 := fun e => h (nI_lt (b := 60) e (by decide))
  omega
theorem l60b {pl : Nat} (hp : pl ≤ 60) (h : nI pl < 60) : pl < 60 := (nI_ltI (b := 60) (by omega) (by decide)).mp h
theorem x_letter {pl : Nat} (hp : pl ≤ 60) (x : Int32) : CC 1 mX3_letter 0 0 [.ref 100, .int x] (WX pgC (nI pl) stC stL PA PS BA BS u) (fun r w1 => ((x < 32 ∨ 126 < x) ∧ r = some (.int (-1002)) ∧ w1 = (WX pgC (nI pl) stC stL PA PS BA BS u)) ∨ (¬ (x < 32 ∨ 126 < x) ∧ pl = 60 ∧ r = some (.int (-1004)) ∧ w1 = (WX pgC (nI pl) stC stL PA PS BA BS u)) ∨ (¬ (x < 32 ∨ 126 < x) ∧ pl < 60 ∧ r = some (.int (nI (pl + 1))) ∧ w1 = (WX (upd pgC pl x) (nI (pl + 1)) stC stL PA PS BA BS u))) := by
  refine CC.of okX3_letter.1 (Nat.le_of_ble_eq_true rfl) (fun g M => ?_)
  show g 0 0 0 [(0, .ref 100), (1, .int x)] [] (WX pgC (nI pl) stC stL PA PS BA BS u)
  refine M.blk (is := [(.iload_n 1, 1, 0, 0), (.bipush 32, 0, 0, 32)]) (pc1 := 3) (lo1 := [(0, .ref 100), (1, .int x)]) (st1 := [.int 32, .int x]) (w1 := (WX pgC (nI pl) stC stL PA PS BA BS u)) (by decide +kernel) rfl ?_
  refine M.icmp_lt (off := 9) (tgt := 12) (nx := 6) (by decide +kernel) (fun z3 => ?_) (fun z3 => ?_)
  · refine M.blk (is := [(.sipush (-1002), 0, 0, (-1002))]) (pc1 := 15) (lo1 := [(0, .ref 100), (1, .int x)]) (st1 := [.int (-1002)]) (w1 := (WX pgC (nI pl) stC stL PA PS BA BS u)) (by decide +kernel) rfl ?_
    exact M.reti (nx := 16) (by decide +kernel) (Or.inl ⟨Or.inl z3, rfl, rfl⟩)
  · refine M.blk (is := [(.iload_n 1, 1, 0, 0), (.bipush 126, 0, 0, 126)]) (pc1 := 9) (lo1 := [(0, .ref 100), (1, .int x)]) (st1 := [.int 126, .int x]) (w1 := (WX pgC (nI pl) stC stL PA PS BA BS u)) (by decide +kernel) rfl ?_
    refine M.icmp_le (off := 7) (tgt := 16) (nx := 12) (by decide +kernel) (fun z9 => ?_) (fun z9 => ?_)
    · refine M.blk (is := [(.aload_n 0, 0, 0, 0), (.getfield 10, 3, 0, 0), (.getfield 33, 2, 1, 0), (.bipush 60, 0, 0, 60)]) (pc1 := 25) (lo1 := [(0, .ref 100), (1, .int x)]) (st1 := [.int 60, .int (nI pl)]) (w1 := (WX pgC (nI pl) stC stL PA PS BA BS u)) (by decide +kernel) rfl ?_
      refine M.icmp_lt (off := 7) (tgt := 32) (nx := 28) (by decide +kernel) (fun z25 => ?_) (fun z25 => ?_)
      · have hl60 := l60b hp z25
        refine M.blk (is := [(.aload_n 0, 0, 0, 0), (.getfield 10, 3, 0, 0), (.iload_n 1, 1, 0, 0)]) (pc1 := 37) (lo1 := [(0, .ref 100), (1, .int x)]) (st1 := [.int x, .ref 101]) (w1 := (WX pgC (nI pl) stC stL PA PS BA BS u)) (by decide +kernel) rfl ?_
        refine M.callVv (as := [.int x]) (st := []) (nx := 40) okX2_add lkX3_37 (x_add1 (n := pl) (by omega) x) (by decide +kernel) (by decide) rfl (Nat.le_of_ble_eq_true rfl) rfl (by decide) ?_
        show g 0 0 40 [(0, .ref 100), (1, .int x)] [] (WX (upd pgC pl x) (nI (pl + 1)) stC stL PA PS BA BS u)
        refine M.blk (is := [(.aload_n 0, 0, 0, 0), (.getfield 10, 3, 0, 0), (.getfield 33, 2, 1, 0)]) (pc1 := 47) (lo1 := [(0, .ref 100), (1, .int x)]) (st1 := [.int (nI (pl + 1))]) (w1 := (WX (upd pgC pl x) (nI (pl + 1)) stC stL PA PS BA BS u)) (by decide +kernel) rfl ?_
        exact M.reti (nx := 48) (by decide +kernel) (Or.inr (Or.inr ⟨i32_out z3 z9, by omega, rfl, rfl⟩))
      · refine M.blk (is := [(.sipush (-1004), 0, 0, (-1004))]) (pc1 := 31) (lo1 := [(0, .ref 100), (1, .int x)]) (st1 := [.int (-1004)]) (w1 := (WX pgC (nI pl) stC stL PA PS BA BS u)) (by decide +kernel) rfl ?_
        exact M.reti (nx := 32) (by decide +kernel) (Or.inr (Or.inl ⟨i32_out z3 z9, l60 hp z25, rfl, rfl⟩))
    · refine M.blk (is := [(.sipush (-1002), 0, 0, (-1002))]) (pc1 := 15) (lo1 := [(0, .ref 100), (1, .int x)]) (st1 := [.int (-1002)]) (w1 := (WX pgC (nI pl) stC stL PA PS BA BS u)) (by decide +kernel) rfl ?_
      exact M.reti (nx := 16) (by decide +kernel) (Or.inl ⟨Or.inr (i32_nle z9), rfl, rfl⟩)
theorem x_blank : CC 1 mX3_blank 0 0 [.ref 100] (WX pgC pgL stC stL PA PS BA BS u) (Rt pgL (WX pgC 0 stC stL PA PS BA BS u)) := by
  refine CC.of okX3_blank.1 (Nat.le_of_ble_eq_true rfl) (fun g M => ?_)
  show g 0 0 0 [(0, .ref 100)] [] (WX pgC pgL stC stL PA PS BA BS u)
  refine M.blk (is := [(.aload_n 0, 0, 0, 0), (.getfield 10, 3, 0, 0), (.getfield 33, 2, 1, 0), (.istore_n 1, 1, 0, 0), (.aload_n 0, 0, 0, 0), (.getfield 10, 3, 0, 0)]) (pc1 := 12) (lo1 := [(1, .int pgL), (0, .ref 100)]) (st1 := [.ref 101]) (w1 := (WX pgC pgL stC stL PA PS BA BS u)) (by decide +kernel) rfl ?_
  refine M.callVv (as := []) (st := []) (nx := 15) okX2_clear lkX3_41 x_clear1 (by decide +kernel) (by decide) rfl (Nat.le_of_ble_eq_true rfl) rfl (by decide) ?_
  show g 0 0 15 [(1, .int pgL), (0, .ref 100)] [] (WX pgC 0 stC stL PA PS BA BS u)
  refine M.blk (is := [(.iload_n 1, 1, 0, 0)]) (pc1 := 16) (lo1 := [(1, .int pgL), (0, .ref 100)]) (st1 := [.int pgL]) (w1 := (WX pgC 0 stC stL PA PS BA BS u)) (by decide +kernel) rfl ?_
  exact M.reti (nx := 17) (by decide +kernel) ⟨rfl, rfl⟩
theorem b2i_t {b : Bool} (h : ¬ b2i b = 0) : b = true := by cases b with | true => rfl | false => exact absurd rfl h
theorem b2i_f {b : Bool} (h : b2i b = 0) : ¬ b = true := by cases b with | true => exact absurd h (by decide) | false => exact fun h => by cases h
theorem x_fault {pl : Nat} (hp : pl ≤ 60) : CC 2 mX3_fault 0 0 [.ref 100] (WX pgC (nI pl) stC stL PA PS BA BS u) (Rt (nI (flt pgC pl 0)) (WX pgC (nI pl) stC stL PA PS BA BS u)) := by
  refine CC.of okX3_fault.1 (Nat.le_of_ble_eq_true rfl) (fun g M => ?_)
  have lp : ∀ m k, k + m = pl → flt pgC pl 0 = flt pgC m k → g 0 0 2 [(0, .ref 100), (1, .int (nI k))] [] (WX pgC (nI pl) stC stL PA PS BA BS u) := by
    intro m
    induction m with
    | zero =>
      intro k hk he
      have ek : pl = k := by omega
      subst ek
      refine M.blk (is := [(.iload_n 1, 1, 0, 0), (.aload_n 0, 0, 0, 0), (.getfield 10, 3, 0, 0), (.getfield 33, 2, 1, 0)]) (pc1 := 10) (lo1 := [(0, .ref 100), (1, .int (nI pl))]) (st1 := [.int (nI pl), .int (nI pl)]) (w1 := (WX pgC (nI pl) stC stL PA PS BA BS u)) (by decide +kernel) rfl ?_
      refine M.icmp_ge (off := 25) (tgt := 35) (nx := 13) (by decide +kernel) (fun z10 => ?_) (fun z10 => by exfalso; exact z10 (nI_le (Nat.le_refl _) (by omega)))
      refine M.blk (is := [(.aload_n 0, 0, 0, 0), (.getfield 10, 3, 0, 0), (.getfield 33, 2, 1, 0)]) (pc1 := 42) (lo1 := [(0, .ref 100), (1, .int (nI pl))]) (st1 := [.int (nI pl)]) (w1 := (WX pgC (nI pl) stC stL PA PS BA BS u)) (by decide +kernel) rfl ?_
      exact M.reti (nx := 43) (by decide +kernel) ⟨by rw [he]; rfl, rfl⟩

    | succ m ih =>
      intro k hk he
      rw [flt_succ] at he
      refine M.blk (is := [(.iload_n 1, 1, 0, 0), (.aload_n 0, 0, 0, 0), (.getfield 10, 3, 0, 0), (.getfield 33, 2, 1, 0)]) (pc1 := 10) (lo1 := [(0, .ref 100), (1, .int (nI k))]) (st1 := [.int (nI pl), .int (nI k)]) (w1 := (WX pgC (nI pl) stC stL PA PS BA BS u)) (by decide +kernel) rfl ?_
      refine M.icmp_ge (off := 25) (tgt := 35) (nx := 13) (by decide +kernel) (fun z10 => by exfalso; exact nI_ge (show k < pl by omega) (by omega) z10) (fun z10 => ?_)
      refine M.blk (is := [(.aload_n 0, 0, 0, 0), (.getfield 10, 3, 0, 0), (.iload_n 1, 1, 0, 0)]) (pc1 := 18) (lo1 := [(0, .ref 100), (1, .int (nI k))]) (st1 := [.int (nI k), .ref 101]) (w1 := (WX pgC (nI pl) stC stL PA PS BA BS u)) (by decide +kernel) rfl ?_
      refine M.callVi (as := [.int (nI k)]) (st := []) (nx := 21) okX2_get lkX3_44 (x_get1 (nI k)) (by decide +kernel) (by decide) rfl (Nat.le_of_ble_eq_true rfl) rfl (by decide) ?_
      rw [sGet_nI (by omega) (show k < pl by omega)]
      refine M.callSi (as := [.int (pgC k)]) (st := []) (nx := 24) okX3_isSign lkX3_48 (s_isSign (WX pgC (nI pl) stC stL PA PS BA BS u) (pgC k)) (by decide +kernel) (by decide) rfl (Nat.le_of_ble_eq_true rfl) ?_
      refine M.if_ne (off := 5) (tgt := 29) (nx := 27) (by decide +kernel) (fun z24 => ?_) (fun z24 => ?_)
      · refine M.blk (is := [(.iinc 1 1, 1, 0, 1), (.goto (-30), 2, 0, 0)]) (pc1 := 2) (lo1 := [(1, .int ((nI k) + 1)), (0, .ref 100)]) (st1 := []) (w1 := (WX pgC (nI pl) stC stL PA PS BA BS u)) (by decide +kernel) rfl ?_
        refine M.lsub [1, 0] (lo1 := [(0, .ref 100), (1, .int ((nI k) + 1))]) rfl ?_
        rw [nI_1]
        exact ih (k + 1) (by omega) (by rw [he, if_pos (b2i_t z24)])
      · refine M.blk (is := [(.iload_n 1, 1, 0, 0)]) (pc1 := 28) (lo1 := [(0, .ref 100), (1, .int (nI k))]) (st1 := [.int (nI k)]) (w1 := (WX pgC (nI pl) stC stL PA PS BA BS u)) (by decide +kernel) rfl ?_
        exact M.reti (nx := 29) (by decide +kernel) ⟨by rw [he, if_neg (b2i_f z24)], rfl⟩
  show g 0 0 0 [(0, .ref 100)] [] (WX pgC (nI pl) stC stL PA PS BA BS u)
  refine M.blk (is := [(.iconst 0, 0, 0, 0), (.istore_n 1, 1, 0, 0)]) (pc1 := 2) (lo1 := [(1, .int 0), (0, .ref 100)]) (st1 := []) (w1 := (WX pgC (nI pl) stC stL PA PS BA BS u)) (by decide +kernel) rfl ?_
  refine M.lsub [1, 0] (lo1 := [(0, .ref 100), (1, .int 0)]) rfl ?_
  exact lp pl 0 (by omega) rfl
theorem x_step {sl : Nat} (hs : sl ≤ 64) (x : Int32) : CC 1 mX3_step 0 0 [.ref 100, .int x] (WX pgC pgL stC (nI sl) PA PS BA BS u) (fun r w1 => w1 = (WX pgC pgL stC (nI sl) PA PS BA BS u) ∧ ((∃ k, k < sl ∧ x = nI k ∧ r = some (.int (stC k))) ∨ ((∀ k, k < sl → ¬ x = nI k) ∧ r = some (.int (-1001))))) := by
  refine CC.of okX3_step.1 (Nat.le_of_ble_eq_true rfl) (fun g M => ?_)
  show g 0 0 0 [(0, .ref 100), (1, .int x)] [] (WX pgC pgL stC (nI sl) PA PS BA BS u)
  refine M.blk (is := [(.iload_n 1, 1, 0, 0)]) (pc1 := 1) (lo1 := [(0, .ref 100), (1, .int x)]) (st1 := [.int x]) (w1 := (WX pgC pgL stC (nI sl) PA PS BA BS u)) (by decide +kernel) rfl ?_
  refine M.if_lt (off := 14) (tgt := 15) (nx := 4) (by decide +kernel) (fun z1 => ?_) (fun z1 => ?_)
  · refine M.blk (is := [(.sipush (-1001), 0, 0, (-1001)), (.goto 11, 29, 0, 0)]) (pc1 := 29) (lo1 := [(0, .ref 100), (1, .int x)]) (st1 := [.int (-1001)]) (w1 := (WX pgC pgL stC (nI sl) PA PS BA BS u)) (by decide +kernel) rfl ?_
    exact M.reti (nx := 30) (by decide +kernel) ⟨rfl, Or.inr ⟨fun k hk e => by rw [e] at z1; exact nI_pos (by omega) z1, rfl⟩⟩
  · refine M.blk (is := [(.iload_n 1, 1, 0, 0), (.aload_n 0, 0, 0, 0), (.getfield 16, 3, 1, 0), (.getfield 33, 2, 1, 0)]) (pc1 := 12) (lo1 := [(0, .ref 100), (1, .int x)]) (st1 := [.int (nI sl), .int x]) (w1 := (WX pgC pgL stC (nI sl) PA PS BA BS u)) (by decide +kernel) rfl ?_
    refine M.icmp_lt (off := 9) (tgt := 21) (nx := 15) (by decide +kernel) (fun z12 => ?_) (fun z12 => ?_)
    · obtain ⟨k, hk, rfl⟩ : ∃ k : Nat, k < sl ∧ x = nI k := ⟨_, (idx_of (n := sl) z1 (fun h => i32_nlt z12 h) (by omega)).2, (idx_of (n := sl) z1 (fun h => i32_nlt z12 h) (by omega)).1⟩
      refine M.blk (is := [(.aload_n 0, 0, 0, 0), (.getfield 16, 3, 1, 0), (.iload_n 1, 1, 0, 0)]) (pc1 := 26) (lo1 := [(0, .ref 100), (1, .int (nI k))]) (st1 := [.int (nI k), .ref 103]) (w1 := (WX pgC pgL stC (nI sl) PA PS BA BS u)) (by decide +kernel) rfl ?_
      refine M.callVi (as := [.int (nI k)]) (st := []) (nx := 29) okX2_get lkX3_44 (x_get3 (nI k)) (by decide +kernel) (by decide) rfl (Nat.le_of_ble_eq_true rfl) rfl (by decide) ?_
      exact M.reti (nx := 30) (by decide +kernel) ⟨rfl, Or.inl ⟨k, hk, rfl, by rw [sGet_nI hs hk]⟩⟩
    · refine M.blk (is := [(.sipush (-1001), 0, 0, (-1001)), (.goto 11, 29, 0, 0)]) (pc1 := 29) (lo1 := [(0, .ref 100), (1, .int x)]) (st1 := [.int (-1001)]) (w1 := (WX pgC pgL stC (nI sl) PA PS BA BS u)) (by decide +kernel) rfl ?_
      exact M.reti (nx := 30) (by decide +kernel) ⟨rfl, Or.inr ⟨fun k hk e => by rw [e] at z12; exact z12 (nI_lt hk (by omega)), rfl⟩⟩
theorem x_test {pl : Nat} (hp : pl ≤ 60) : CC 3 mX3_test 0 0 [.ref 100] (WX pgC (nI pl) stC stL PA PS BA BS u) (fun r w1 => ((pl = 0 ∨ flt pgC pl 0 < pl) ∧ r = some (.int (-1003)) ∧ w1 = (WX pgC (nI pl) stC stL PA PS BA BS u)) ∨ (¬ (pl = 0 ∨ flt pgC pl 0 < pl) ∧ r = some (.int (nI pl)) ∧ ∃ D, w1 = (WX pgC 0 D (nI pl) PA PS BA (upd BS 5 0) u) ∧ ∀ j, j < pl → D j = pgC j)) := by
  refine CC.of okX3_test.1 (Nat.le_of_ble_eq_true rfl) (fun g M => ?_)
  have hfl := (flt_ge pgC pl 0).2
  show g 0 0 0 [(0, .ref 100)] [] (WX pgC (nI pl) stC stL PA PS BA BS u)
  refine M.blk (is := [(.aload_n 0, 0, 0, 0), (.getfield 10, 3, 0, 0), (.getfield 33, 2, 1, 0)]) (pc1 := 7) (lo1 := [(0, .ref 100)]) (st1 := [.int (nI pl)]) (w1 := (WX pgC (nI pl) stC stL PA PS BA BS u)) (by decide +kernel) rfl ?_
  refine M.if_eq (off := 17) (tgt := 24) (nx := 10) (by decide +kernel) (fun z7 => ?_) (fun z7 => ?_)
  · refine M.blk (is := [(.sipush (-1003), 0, 0, (-1003))]) (pc1 := 27) (lo1 := [(0, .ref 100)]) (st1 := [.int (-1003)]) (w1 := (WX pgC (nI pl) stC stL PA PS BA BS u)) (by decide +kernel) rfl ?_
    exact M.reti (nx := 28) (by decide +kernel) (Or.inl ⟨Or.inl (nI_inj (by omega) (by decide) z7), rfl, rfl⟩)
  · refine M.blk (is := [(.aload_n 0, 0, 0, 0)]) (pc1 := 11) (lo1 := [(0, .ref 100)]) (st1 := [.ref 100]) (w1 := (WX pgC (nI pl) stC stL PA PS BA BS u)) (by decide +kernel) rfl ?_
    refine M.callVi (as := []) (st := []) (nx := 14) okX3_fault lkX3_52 (x_fault hp) (by decide +kernel) (by decide) rfl (Nat.le_of_ble_eq_true rfl) rfl (by decide) ?_
    refine M.blk (is := [(.aload_n 0, 0, 0, 0), (.getfield 10, 3, 0, 0), (.getfield 33, 2, 1, 0)]) (pc1 := 21) (lo1 := [(0, .ref 100)]) (st1 := [.int (nI pl), .int (nI (flt pgC pl 0))]) (w1 := (WX pgC (nI pl) stC stL PA PS BA BS u)) (by decide +kernel) rfl ?_
    refine M.icmp_ge (off := 7) (tgt := 28) (nx := 24) (by decide +kernel) (fun z21 => ?_) (fun z21 => ?_)
    · have h0 : ¬ pl = 0 := fun e => z7 (by rw [e]; rfl)
      have hge : ¬ flt pgC pl 0 < pl := fun e => nI_ge e (by omega) z21
      have lp : ∀ m k D, k + m = pl → (∀ j, j < k → D j = pgC j) → g 0 0 37 [(0, .ref 100), (1, .int (nI k))] [] (WX pgC (nI pl) D (nI k) PA PS BA BS u) := by
        intro m
        induction m with
        | zero =>
          intro k D hk hD
          have ek : pl = k := by omega
          subst ek
          refine M.blk (is := [(.iload_n 1, 1, 0, 0), (.aload_n 0, 0, 0, 0), (.getfield 10, 3, 0, 0), (.getfield 33, 2, 1, 0)]) (pc1 := 45) (lo1 := [(0, .ref 100), (1, .int (nI pl))]) (st1 := [.int (nI pl), .int (nI pl)]) (w1 := (WX pgC (nI pl) D (nI pl) PA PS BA BS u)) (by decide +kernel) rfl ?_
          refine M.icmp_ge (off := 24) (tgt := 69) (nx := 48) (by decide +kernel) (fun z45 => ?_) (fun z45 => by exfalso; exact z45 (nI_le (Nat.le_refl _) (by omega)))
          refine M.blk (is := [(.aload_n 0, 0, 0, 0), (.getfield 10, 3, 0, 0)]) (pc1 := 73) (lo1 := [(0, .ref 100), (1, .int (nI pl))]) (st1 := [.ref 101]) (w1 := (WX pgC (nI pl) D (nI pl) PA PS BA BS u)) (by decide +kernel) rfl ?_
          refine M.callVv (as := []) (st := []) (nx := 76) okX2_clear lkX3_41 x_clear1 (by decide +kernel) (by decide) rfl (Nat.le_of_ble_eq_true rfl) rfl (by decide) ?_
          show g 0 0 76 [(0, .ref 100), (1, .int (nI pl))] [] (WX pgC 0 D (nI pl) PA PS BA BS u)
          refine M.blk (is := [(.aload_n 0, 0, 0, 0), (.getfield 29, 3, 3, 0)]) (pc1 := 80) (lo1 := [(0, .ref 100), (1, .int (nI pl))]) (st1 := [.ref 113]) (w1 := (WX pgC 0 D (nI pl) PA PS BA BS u)) (by decide +kernel) rfl ?_
          refine M.callVv (as := []) (st := []) (nx := 83) okX0_forget lkX3_56 x_forget (by decide +kernel) (by decide) rfl (Nat.le_of_ble_eq_true rfl) rfl (by decide) ?_
          show g 0 0 83 [(0, .ref 100), (1, .int (nI pl))] [] (WX pgC 0 D (nI pl) PA PS BA (upd BS 5 0) u)
          refine M.blk (is := [(.aload_n 0, 0, 0, 0), (.getfield 16, 3, 1, 0), (.getfield 33, 2, 1, 0)]) (pc1 := 90) (lo1 := [(0, .ref 100), (1, .int (nI pl))]) (st1 := [.int (nI pl)]) (w1 := (WX pgC 0 D (nI pl) PA PS BA (upd BS 5 0) u)) (by decide +kernel) rfl ?_
          exact M.reti (nx := 91) (by decide +kernel) (Or.inr ⟨fun e => e.elim h0 hge, rfl, D, rfl, hD⟩)
        | succ m ih =>
          intro k D hk hD
          refine M.blk (is := [(.iload_n 1, 1, 0, 0), (.aload_n 0, 0, 0, 0), (.getfield 10, 3, 0, 0), (.getfield 33, 2, 1, 0)]) (pc1 := 45) (lo1 := [(0, .ref 100), (1, .int (nI k))]) (st1 := [.int (nI pl), .int (nI k)]) (w1 := (WX pgC (nI pl) D (nI k) PA PS BA BS u)) (by decide +kernel) rfl ?_
          refine M.icmp_ge (off := 24) (tgt := 69) (nx := 48) (by decide +kernel) (fun z45 => by exfalso; exact nI_ge (show k < pl by omega) (by omega) z45) (fun z45 => ?_)
          refine M.blk (is := [(.aload_n 0, 0, 0, 0), (.getfield 16, 3, 1, 0), (.aload_n 0, 0, 0, 0), (.getfield 10, 3, 0, 0), (.iload_n 1, 1, 0, 0)]) (pc1 := 57) (lo1 := [(0, .ref 100), (1, .int (nI k))]) (st1 := [.int (nI k), .ref 101, .ref 103]) (w1 := (WX pgC (nI pl) D (nI k) PA PS BA BS u)) (by decide +kernel) rfl ?_
          refine M.callVi (as := [.int (nI k)]) (st := [.ref 103]) (nx := 60) okX2_get lkX3_44 (x_get1 (nI k)) (by decide +kernel) (by decide) rfl (Nat.le_of_ble_eq_true rfl) rfl (by decide) ?_
          refine M.callVv (as := [.int (sGet pgC (nI pl) (nI k))]) (st := []) (nx := 63) okX2_add lkX3_37 (x_add3 (n := k) (by omega) (sGet pgC (nI pl) (nI k))) (by decide +kernel) (by decide) rfl (Nat.le_of_ble_eq_true rfl) rfl (by decide) ?_
          show g 0 0 63 [(0, .ref 100), (1, .int (nI k))] [] (WX pgC (nI pl) (upd D k (sGet pgC (nI pl) (nI k))) (nI (k + 1)) PA PS BA BS u)
          refine M.blk (is := [(.iinc 1 1, 1, 0, 1), (.goto (-29), 37, 0, 0)]) (pc1 := 37) (lo1 := [(1, .int ((nI k) + 1)), (0, .ref 100)]) (st1 := []) (w1 := (WX pgC (nI pl) (upd D k (sGet pgC (nI pl) (nI k))) (nI (k + 1)) PA PS BA BS u)) (by decide +kernel) rfl ?_
          refine M.lsub [1, 0] (lo1 := [(0, .ref 100), (1, .int ((nI k) + 1))]) rfl ?_
          rw [nI_1]
          refine ih (k + 1) _ (by omega) (fun j hj => ?_)
          by_cases e : j = k
          · rw [e, pk_us, sGet_nI (by omega) (by omega)]
          · rw [pk_un e]; exact hD j (by omega)
      refine M.blk (is := [(.aload_n 0, 0, 0, 0), (.getfield 16, 3, 1, 0)]) (pc1 := 32) (lo1 := [(0, .ref 100)]) (st1 := [.ref 103]) (w1 := (WX pgC (nI pl) stC stL PA PS BA BS u)) (by decide +kernel) rfl ?_
      refine M.callVv (as := []) (st := []) (nx := 35) okX2_clear lkX3_41 x_clear3 (by decide +kernel) (by decide) rfl (Nat.le_of_ble_eq_true rfl) rfl (by decide) ?_
      show g 0 0 35 [(0, .ref 100)] [] (WX pgC (nI pl) stC 0 PA PS BA BS u)
      refine M.blk (is := [(.iconst 0, 0, 0, 0), (.istore_n 1, 1, 0, 0)]) (pc1 := 37) (lo1 := [(1, .int 0), (0, .ref 100)]) (st1 := []) (w1 := (WX pgC (nI pl) stC 0 PA PS BA BS u)) (by decide +kernel) rfl ?_
      refine M.lsub [1, 0] (lo1 := [(0, .ref 100), (1, .int 0)]) rfl ?_
      exact lp pl 0 stC (by omega) (fun j hj => absurd hj (Nat.not_lt_zero _))
    · refine M.blk (is := [(.sipush (-1003), 0, 0, (-1003))]) (pc1 := 27) (lo1 := [(0, .ref 100)]) (st1 := [.int (-1003)]) (w1 := (WX pgC (nI pl) stC stL PA PS BA BS u)) (by decide +kernel) rfl ?_
      exact M.reti (nx := 28) (by decide +kernel) (Or.inl ⟨Or.inr ((nI_ltI (by omega) (by omega)).mp (i32_nle z21)), rfl, rfl⟩)
def ntz (k : Nat) : Nat := if k % 2 = 1 then 0 else if k % 4 = 2 then 1 else if k % 8 = 4 then 2 else if k % 16 = 8 then 3 else 4
theorem ntz_m : ∀ k : Fin 32, 1 ≤ k.val → (nI k.val ^^^ (-1)) &&& (nI k.val - 1) = nI (2 ^ ntz k.val - 1) := by decide +kernel
theorem ntz_4 (k : Nat) : ntz k ≤ 4 := by unfold ntz; repeat' split
                                          all_goals omega
theorem nz_k : ∀ z : Fin 5, nI (2 ^ z.val - 1) ≤ 16 ∧ (¬ 0 < nI (2 ^ z.val - 1) → nI (2 ^ z.val - 1) &&& 32 = nI z.val) ∧ (nI (2 ^ z.val - 1) ≤ 4 → 0 < nI (2 ^ z.val - 1) → 1 + ((nI (2 ^ z.val - 1)).toUInt32 >>> ((1 : Int32).toUInt32 &&& Int32.toUInt32 31)).toInt32 = nI z.val) ∧ (¬ nI (2 ^ z.val - 1) ≤ 4 → 1 + 2 + ((((nI (2 ^ z.val - 1)).toUInt32 >>> ((2 : Int32).toUInt32 &&& Int32.toUInt32 31)).toInt32).toUInt32 >>> ((1 : Int32).toUInt32 &&& Int32.toUInt32 31)).toInt32 = nI z.val) := by decide +kernel
theorem nz_le {z : Nat} (h4 : z ≤ 4) {y : Int32} (hy : (16 : Int32) ≤ y) : nI (2 ^ z - 1) ≤ y := by
  have h := (nz_k ⟨z, by omega⟩).1
  rw [Int32.le_iff_toInt_le] at *
  dsimp only at h
  omega
theorem nz_a {z : Nat} (h4 : z ≤ 4) (h : ¬ 0 < nI (2 ^ z - 1)) : some (Value.int (nI (2 ^ z - 1) &&& 32)) = some (.int (nI z)) := by rw [(nz_k ⟨z, by omega⟩).2.1 h]
theorem nz_b {z : Nat} (h4 : z ≤ 4) (h : nI (2 ^ z - 1) ≤ 4) (h0 : 0 < nI (2 ^ z - 1)) : some (Value.int (1 + ((nI (2 ^ z - 1)).toUInt32 >>> ((1 : Int32).toUInt32 &&& Int32.toUInt32 31)).toInt32)) = some (.int (nI z)) := by rw [(nz_k ⟨z, by omega⟩).2.2.1 h h0]
theorem nz_c {z : Nat} (h4 : z ≤ 4) (h : ¬ nI (2 ^ z - 1) ≤ 4) : some (Value.int (1 + 2 + ((((nI (2 ^ z - 1)).toUInt32 >>> ((2 : Int32).toUInt32 &&& Int32.toUInt32 31)).toInt32).toUInt32 >>> ((1 : Int32).toUInt32 &&& Int32.toUInt32 31)).toInt32)) = some (.int (nI z)) := by rw [(nz_k ⟨z, by omega⟩).2.2.2 h]
theorem s_ntz (w0 : Wd) {k : Nat} (h1 : 1 ≤ k) (h32 : k < 32) : CC 0 mJ6_numberOfTrailingZeros_0f7a4 0 0 [.int (nI k)] w0 (Rt (nI (ntz k)) w0) := by
  refine CC.of okJ6_numberOfTrailingZeros_0f7a4.1 (Nat.le_of_ble_eq_true rfl) (fun g M => ?_)
  have hm := ntz_m ⟨k, h32⟩ h1
  dsimp only at hm
  show g 0 0 0 [(0, .int (nI k))] [] w0
  refine M.blk (is := [(.iload_n 0, 0, 0, 0), (.iconst (-1), 0, 0, (-1)), (.ixor, 0, 0, 0), (.iload_n 0, 0, 0, 0), (.iconst 1, 0, 0, 1), (.isub, 0, 0, 0), (.iand, 0, 0, 0), (.istore_n 0, 0, 0, 0)]) (pc1 := 8) (lo1 := [(0, .int (((nI k) ^^^ (-1)) &&& ((nI k) - 1)))]) (st1 := []) (w1 := w0) (by decide +kernel) rfl ?_
  rw [hm]
  have h4 := ntz_4 k
  clear hm
  generalize ntz k = z at h4 M ⊢
  refine M.blk (is := [(.iload_n 0, 0, 0, 0)]) (pc1 := 9) (lo1 := [(0, .int (nI (2 ^ z - 1)))]) (st1 := [.int (nI (2 ^ z - 1))]) (w1 := w0) (by decide +kernel) rfl ?_
  refine M.if_gt (off := 8) (tgt := 17) (nx := 12) (by decide +kernel) (fun z9 => ?_) (fun z9 => ?_)
  · refine M.blk (is := [(.iconst 1, 0, 0, 1), (.istore_n 1, 1, 0, 0), (.iload_n 0, 0, 0, 0)]) (pc1 := 20) (lo1 := [(1, .int 1), (0, .int (nI (2 ^ z - 1)))]) (st1 := [.int (nI (2 ^ z - 1))]) (w1 := w0) (by decide +kernel) rfl ?_
    refine M.ldi (v := 65536) (idx := 264) (nx := 23) (by decide +kernel) (lw_in 273 (by decide +kernel) (by decide +kernel)) ?_
    refine M.icmp_le (off := 11) (tgt := 34) (nx := 26) (by decide +kernel) (fun z23 => ?_) (fun z23 => by exfalso; exact z23 (nz_le h4 (by decide)))
    refine M.blk (is := [(.iload_n 0, 0, 0, 0), (.sipush 256, 0, 0, 256)]) (pc1 := 38) (lo1 := [(1, .int 1), (0, .int (nI (2 ^ z - 1)))]) (st1 := [.int 256, .int (nI (2 ^ z - 1))]) (w1 := w0) (by decide +kernel) rfl ?_
    refine M.icmp_le (off := 11) (tgt := 49) (nx := 41) (by decide +kernel) (fun z38 => ?_) (fun z38 => by exfalso; exact z38 (nz_le h4 (by decide)))
    refine M.blk (is := [(.iload_n 0, 0, 0, 0), (.bipush 16, 0, 0, 16)]) (pc1 := 52) (lo1 := [(1, .int 1), (0, .int (nI (2 ^ z - 1)))]) (st1 := [.int 16, .int (nI (2 ^ z - 1))]) (w1 := w0) (by decide +kernel) rfl ?_
    refine M.icmp_le (off := 10) (tgt := 62) (nx := 55) (by decide +kernel) (fun z52 => ?_) (fun z52 => by exfalso; exact z52 (nz_le h4 (by decide)))
    refine M.blk (is := [(.iload_n 0, 0, 0, 0), (.iconst 4, 0, 0, 4)]) (pc1 := 64) (lo1 := [(1, .int 1), (0, .int (nI (2 ^ z - 1)))]) (st1 := [.int 4, .int (nI (2 ^ z - 1))]) (w1 := w0) (by decide +kernel) rfl ?_
    refine M.icmp_le (off := 10) (tgt := 74) (nx := 67) (by decide +kernel) (fun z64 => ?_) (fun z64 => ?_)
    · refine M.blk (is := [(.iload_n 1, 1, 0, 0), (.iload_n 0, 0, 0, 0), (.iconst 1, 0, 0, 1), (.iushr, 0, 0, 0), (.iadd, 0, 0, 0)]) (pc1 := 79) (lo1 := [(1, .int 1), (0, .int (nI (2 ^ z - 1)))]) (st1 := [.int (1 + (((nI (2 ^ z - 1)).toUInt32 >>> ((1 : Int32).toUInt32 &&& Int32.toUInt32 31)).toInt32))]) (w1 := w0) (by decide +kernel) rfl ?_
      exact M.reti (nx := 80) (by decide +kernel) ⟨nz_b h4 z64 z9, rfl⟩
    · refine M.blk (is := [(.iinc 1 2, 1, 0, 2), (.iload_n 0, 0, 0, 0), (.iconst 2, 0, 0, 2), (.iushr, 0, 0, 0), (.istore_n 0, 0, 0, 0), (.iload_n 1, 1, 0, 0), (.iload_n 0, 0, 0, 0), (.iconst 1, 0, 0, 1), (.iushr, 0, 0, 0), (.iadd, 0, 0, 0)]) (pc1 := 79) (lo1 := [(0, .int (((nI (2 ^ z - 1)).toUInt32 >>> ((2 : Int32).toUInt32 &&& Int32.toUInt32 31)).toInt32)), (1, .int 3)]) (st1 := [.int (3 + (((((nI (2 ^ z - 1)).toUInt32 >>> ((2 : Int32).toUInt32 &&& Int32.toUInt32 31)).toInt32).toUInt32 >>> ((1 : Int32).toUInt32 &&& Int32.toUInt32 31)).toInt32))]) (w1 := w0) (by decide +kernel) rfl ?_
      exact M.reti (nx := 80) (by decide +kernel) ⟨nz_c h4 z64, rfl⟩
  · refine M.blk (is := [(.iload_n 0, 0, 0, 0), (.bipush 32, 0, 0, 32), (.iand, 0, 0, 0)]) (pc1 := 16) (lo1 := [(0, .int (nI (2 ^ z - 1)))]) (st1 := [.int ((nI (2 ^ z - 1)) &&& 32)]) (w1 := w0) (by decide +kernel) rfl ?_
    exact M.reti (nx := 17) (by decide +kernel) ⟨nz_a h4 z9, rfl⟩
def gry (j : Nat) : Int32 := if j = 0 then 122 else if j % 2 = 1 then 114 else nI (48 + ntz (j / 2))
theorem x_gray : CC 1 mX3_gray 0 0 [.ref 100] (WX pgC pgL stC stL PA PS BA BS u) (fun r w1 => r = some (.int 64) ∧ ∃ D, w1 = (WX pgC pgL D 64 PA PS BA (upd BS 5 0) u) ∧ ∀ j, j < 64 → D j = gry j) := by
  refine CC.of okX3_gray.1 (Nat.le_of_ble_eq_true rfl) (fun g M => ?_)
  have lp : ∀ m k D, k + m = 32 → 1 ≤ k → (∀ j, j < 2 * k → D j = gry j) → g 0 0 27 [(0, .ref 100), (1, .int (nI k))] [] (WX pgC pgL D (nI (2 * k)) PA PS BA BS u) := by
    intro m
    induction m with
    | zero =>
      intro k D hk h1 hD
      have ek : k = 32 := by omega
      subst ek
      refine M.blk (is := [(.iload_n 1, 1, 0, 0), (.bipush 32, 0, 0, 32)]) (pc1 := 30) (lo1 := [(0, .ref 100), (1, .int (nI 32))]) (st1 := [.int 32, .int (nI 32)]) (w1 := (WX pgC pgL D (nI 64) PA PS BA BS u)) (by decide +kernel) rfl ?_
      refine M.icmp_ge (off := 32) (tgt := 62) (nx := 33) (by decide +kernel) (fun z30 => ?_) (fun z30 => by exfalso; exact z30 (by decide))
      refine M.blk (is := [(.aload_n 0, 0, 0, 0), (.getfield 29, 3, 3, 0)]) (pc1 := 66) (lo1 := [(0, .ref 100), (1, .int (nI 32))]) (st1 := [.ref 113]) (w1 := (WX pgC pgL D (nI 64) PA PS BA BS u)) (by decide +kernel) rfl ?_
      refine M.callVv (as := []) (st := []) (nx := 69) okX0_forget lkX3_56 x_forget (by decide +kernel) (by decide) rfl (Nat.le_of_ble_eq_true rfl) rfl (by decide) ?_
      show g 0 0 69 [(0, .ref 100), (1, .int (nI 32))] [] (WX pgC pgL D (nI 64) PA PS BA (upd BS 5 0) u)
      refine M.blk (is := [(.aload_n 0, 0, 0, 0), (.getfield 16, 3, 1, 0), (.getfield 33, 2, 1, 0)]) (pc1 := 76) (lo1 := [(0, .ref 100), (1, .int (nI 32))]) (st1 := [.int (nI 64)]) (w1 := (WX pgC pgL D (nI 64) PA PS BA (upd BS 5 0) u)) (by decide +kernel) rfl ?_
      exact M.reti (nx := 77) (by decide +kernel) ⟨rfl, D, rfl, hD⟩
    | succ m ih =>
      intro k D hk h1 hD
      refine M.blk (is := [(.iload_n 1, 1, 0, 0), (.bipush 32, 0, 0, 32)]) (pc1 := 30) (lo1 := [(0, .ref 100), (1, .int (nI k))]) (st1 := [.int 32, .int (nI k)]) (w1 := (WX pgC pgL D (nI (2 * k)) PA PS BA BS u)) (by decide +kernel) rfl ?_
      refine M.icmp_ge (off := 32) (tgt := 62) (nx := 33) (by decide +kernel) (fun z30 => by exfalso; exact nI_ge (a := k) (b := 32) (by omega) (by decide) z30) (fun z30 => ?_)
      refine M.blk (is := [(.aload_n 0, 0, 0, 0), (.getfield 16, 3, 1, 0), (.bipush 48, 0, 0, 48), (.iload_n 1, 1, 0, 0)]) (pc1 := 40) (lo1 := [(0, .ref 100), (1, .int (nI k))]) (st1 := [.int (nI k), .int 48, .ref 103]) (w1 := (WX pgC pgL D (nI (2 * k)) PA PS BA BS u)) (by decide +kernel) rfl ?_
      refine M.callSi (as := [.int (nI k)]) (st := [.int 48, .ref 103]) (nx := 43) okJ6_numberOfTrailingZeros_0f7a4 lkX3_59 (s_ntz (WX pgC pgL D (nI (2 * k)) PA PS BA BS u) h1 (by omega)) (by decide +kernel) (by decide) rfl (Nat.le_of_ble_eq_true rfl) ?_
      refine M.blk (is := [(.iadd, 0, 0, 0)]) (pc1 := 44) (lo1 := [(0, .ref 100), (1, .int (nI k))]) (st1 := [.int (48 + (nI (ntz k))), .ref 103]) (w1 := (WX pgC pgL D (nI (2 * k)) PA PS BA BS u)) (by decide +kernel) rfl ?_
      refine M.callVv (as := [.int (48 + (nI (ntz k)))]) (st := []) (nx := 47) okX2_add lkX3_37 (x_add3 (n := 2 * k) (by omega) (48 + (nI (ntz k)))) (by decide +kernel) (by decide) rfl (Nat.le_of_ble_eq_true rfl) rfl (by decide) ?_
      show g 0 0 47 [(0, .ref 100), (1, .int (nI k))] [] (WX pgC pgL (upd D (2 * k) (48 + (nI (ntz k)))) (nI (2 * k + 1)) PA PS BA BS u)
      refine M.blk (is := [(.aload_n 0, 0, 0, 0), (.getfield 16, 3, 1, 0), (.bipush 114, 0, 0, 114)]) (pc1 := 53) (lo1 := [(0, .ref 100), (1, .int (nI k))]) (st1 := [.int 114, .ref 103]) (w1 := (WX pgC pgL (upd D (2 * k) (48 + (nI (ntz k)))) (nI (2 * k + 1)) PA PS BA BS u)) (by decide +kernel) rfl ?_
      refine M.callVv (as := [.int 114]) (st := []) (nx := 56) okX2_add lkX3_37 (x_add3 (n := 2 * k + 1) (by omega) 114) (by decide +kernel) (by decide) rfl (Nat.le_of_ble_eq_true rfl) rfl (by decide) ?_
      show g 0 0 56 [(0, .ref 100), (1, .int (nI k))] [] (WX pgC pgL (upd (upd D (2 * k) (48 + (nI (ntz k)))) (2 * k + 1) 114) (nI (2 * k + 1 + 1)) PA PS BA BS u)
      refine M.blk (is := [(.iinc 1 1, 1, 0, 1), (.goto (-32), 27, 0, 0)]) (pc1 := 27) (lo1 := [(1, .int ((nI k) + 1)), (0, .ref 100)]) (st1 := []) (w1 := (WX pgC pgL (upd (upd D (2 * k) (48 + (nI (ntz k)))) (2 * k + 1) 114) (nI (2 * k + 1 + 1)) PA PS BA BS u)) (by decide +kernel) rfl ?_
      refine M.lsub [1, 0] (lo1 := [(0, .ref 100), (1, .int ((nI k) + 1))]) rfl ?_
      rw [nI_1]
      refine ih (k + 1) _ (by omega) (by omega) (fun j hj => ?_)
      by_cases e1 : j = 2 * k + 1
      · rw [e1, pk_us]; unfold gry; rw [if_neg (by omega), if_pos (by omega)]
      · rw [pk_un e1]
        by_cases e2 : j = 2 * k
        · rw [e2, pk_us]; unfold gry; rw [if_neg (by omega), if_neg (by omega), show 2 * k / 2 = k by omega, ← nI_add]; rfl
        · rw [pk_un e2]; exact hD j (by omega)
  show g 0 0 0 [(0, .ref 100)] [] (WX pgC pgL stC stL PA PS BA BS u)
  refine M.blk (is := [(.aload_n 0, 0, 0, 0), (.getfield 16, 3, 1, 0)]) (pc1 := 4) (lo1 := [(0, .ref 100)]) (st1 := [.ref 103]) (w1 := (WX pgC pgL stC stL PA PS BA BS u)) (by decide +kernel) rfl ?_
  refine M.callVv (as := []) (st := []) (nx := 7) okX2_clear lkX3_41 x_clear3 (by decide +kernel) (by decide) rfl (Nat.le_of_ble_eq_true rfl) rfl (by decide) ?_
  show g 0 0 7 [(0, .ref 100)] [] (WX pgC pgL stC 0 PA PS BA BS u)
  refine M.blk (is := [(.aload_n 0, 0, 0, 0), (.getfield 16, 3, 1, 0), (.bipush 122, 0, 0, 122)]) (pc1 := 13) (lo1 := [(0, .ref 100)]) (st1 := [.int 122, .ref 103]) (w1 := (WX pgC pgL stC 0 PA PS BA BS u)) (by decide +kernel) rfl ?_
  refine M.callVv (as := [.int 122]) (st := []) (nx := 16) okX2_add lkX3_37 (x_add3 (n := 0) (by omega) 122) (by decide +kernel) (by decide) rfl (Nat.le_of_ble_eq_true rfl) rfl (by decide) ?_
  show g 0 0 16 [(0, .ref 100)] [] (WX pgC pgL (upd stC 0 122) (nI (0 + 1)) PA PS BA BS u)
  refine M.blk (is := [(.aload_n 0, 0, 0, 0), (.getfield 16, 3, 1, 0), (.bipush 114, 0, 0, 114)]) (pc1 := 22) (lo1 := [(0, .ref 100)]) (st1 := [.int 114, .ref 103]) (w1 := (WX pgC pgL (upd stC 0 122) (nI (0 + 1)) PA PS BA BS u)) (by decide +kernel) rfl ?_
  refine M.callVv (as := [.int 114]) (st := []) (nx := 25) okX2_add lkX3_37 (x_add3 (n := 0 + 1) (by omega) 114) (by decide +kernel) (by decide) rfl (Nat.le_of_ble_eq_true rfl) rfl (by decide) ?_
  show g 0 0 25 [(0, .ref 100)] [] (WX pgC pgL (upd (upd stC 0 122) (0 + 1) 114) (nI (0 + 1 + 1)) PA PS BA BS u)
  refine M.blk (is := [(.iconst 1, 0, 0, 1), (.istore_n 1, 1, 0, 0)]) (pc1 := 27) (lo1 := [(1, .int 1), (0, .ref 100)]) (st1 := []) (w1 := (WX pgC pgL (upd (upd stC 0 122) (0 + 1) 114) (nI (0 + 1 + 1)) PA PS BA BS u)) (by decide +kernel) rfl ?_
  refine M.lsub [1, 0] (lo1 := [(0, .ref 100), (1, .int 1)]) rfl ?_
  exact lp 31 1 _ (by omega) (by omega) (fun j hj => by rcases (show j = 0 ∨ j = 1 by omega) with rfl | rfl <;> rfl)
end TEXT
