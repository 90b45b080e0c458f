section MONE
variable {MA : Nat → Nat → Int32} {MS : Nat → Int32} {Mh : Int64} {v : List Cl}
def withF (x a b : Int32) : Int32 := if x < a then 0 else if b < x then 0 else 1
theorem wf_cases (x : Int32) {a b : Nat} (hb : b < 2147483647) (hab : a ≤ b + 1) : (withF x (nI a) (nI b) = 0 ∧ ∀ k, a ≤ k → k ≤ b → ¬ x = nI k) ∨ (withF x (nI a) (nI b) = 1 ∧ ∃ k, a ≤ k ∧ k ≤ b ∧ x = nI k) := by
  unfold withF
  by_cases h1 : x < nI a
  · left
    rw [if_pos h1]
    refine ⟨rfl, fun k hk1 hk2 e => ?_⟩
    rw [e] at h1
    exact nI_nlt hk1 (by omega) h1
  · rw [if_neg h1]
    by_cases h2 : nI b < x
    · left
      rw [if_pos h2]
      refine ⟨rfl, fun k hk1 hk2 e => ?_⟩
      rw [e] at h2
      exact nI_nlt hk2 (by omega) h2
    · right
      rw [if_neg h2]
      refine ⟨rfl, ?_⟩
      have h0 : ¬ x < 0 := by
        rw [Int32.lt_iff_toInt_lt] at h1 ⊢
        rw [nI_toInt (by omega)] at h1
        have : (0 : Int32).toInt = 0 := by decide
        omega
      obtain ⟨j, hj, rfl⟩ := nI_of h0
      refine ⟨j, ?_, ?_, rfl⟩
      · rcases Nat.lt_or_ge j a with h | h
        · exact absurd (nI_lt h (by omega)) h1
        · exact h
      · rcases Nat.lt_or_ge b j with h | h
        · exact absurd (nI_lt h (by omega)) h2
        · exact h
def hbF (b k : Int32) : Int32 := if (b >>> (k &&& 31)) &&& 1 = 1 then 1 else 0
def onA (b : Int32) (k : Nat) : Int32 := match k with
  | 0 => 0
  | k + 1 => onA b k + ((b >>> (nI k &&& 31)) &&& 1)
theorem s_within (w0 : Wd) (x a b : Int32) : CC 0 mX4_within 0 0 [.int x, .int a, .int b] w0 (Rt (withF x a b) w0) := by
  refine CC.of okX4_within.1 (Nat.le_of_ble_eq_true rfl) (fun g M => ?_)
  show g 0 0 0 [(0, .int x), (1, .int a), (2, .int b)] [] w0
  refine M.blk (is := [(.iload_n 0, 0, 0, 0), (.iload_n 1, 1, 0, 0)]) (pc1 := 2) (lo1 := [(0, .int x), (1, .int a), (2, .int b)]) (st1 := [.int a, .int x]) (w1 := w0) (by decide +kernel) rfl ?_
  refine M.icmp_lt (off := 12) (tgt := 14) (nx := 5) (by decide +kernel) (fun z2 => ?_) (fun z2 => ?_)
  · refine M.blk (is := [(.iconst 0, 0, 0, 0)]) (pc1 := 15) (lo1 := [(0, .int x), (1, .int a), (2, .int b)]) (st1 := [.int 0]) (w1 := w0) (by decide +kernel) rfl ?_
    exact M.retz (nx := 16) (by decide +kernel) (by decide) ⟨by simp [withF, *], rfl⟩
  · refine M.blk (is := [(.iload_n 0, 0, 0, 0), (.iload_n 2, 2, 0, 0)]) (pc1 := 7) (lo1 := [(0, .int x), (1, .int a), (2, .int b)]) (st1 := [.int b, .int x]) (w1 := w0) (by decide +kernel) rfl ?_
    refine M.icmp_gt (off := 7) (tgt := 14) (nx := 10) (by decide +kernel) (fun z7 => ?_) (fun z7 => ?_)
    · refine M.blk (is := [(.iconst 0, 0, 0, 0)]) (pc1 := 15) (lo1 := [(0, .int x), (1, .int a), (2, .int b)]) (st1 := [.int 0]) (w1 := w0) (by decide +kernel) rfl ?_
      exact M.retz (nx := 16) (by decide +kernel) (by decide) ⟨by simp [withF, *], rfl⟩
    · refine M.blk (is := [(.iconst 1, 0, 0, 1), (.goto 4, 15, 0, 0)]) (pc1 := 15) (lo1 := [(0, .int x), (1, .int a), (2, .int b)]) (st1 := [.int 1]) (w1 := w0) (by decide +kernel) rfl ?_
      exact M.retz (nx := 16) (by decide +kernel) (by decide) ⟨by simp [withF, *], rfl⟩
theorem s_hasM (w0 : Wd) (b k : Int32) : CC 0 mX4_has 0 0 [.int b, .int k] w0 (Rt (hbF b k) w0) := by
  refine CC.of okX4_has.1 (Nat.le_of_ble_eq_true rfl) (fun g M => ?_)
  show g 0 0 0 [(0, .int b), (1, .int k)] [] w0
  refine M.blk (is := [(.iload_n 0, 0, 0, 0), (.iload_n 1, 1, 0, 0), (.ishr, 0, 0, 0), (.iconst 1, 0, 0, 1), (.iand, 0, 0, 0), (.iconst 1, 0, 0, 1)]) (pc1 := 6) (lo1 := [(0, .int b), (1, .int k)]) (st1 := [.int 1, .int ((b >>> (k &&& 31)) &&& 1)]) (w1 := w0) (by decide +kernel) rfl ?_
  refine M.icmp_ne (off := 7) (tgt := 13) (nx := 9) (by decide +kernel) (fun z6 => ?_) (fun z6 => ?_)
  · refine M.blk (is := [(.iconst 0, 0, 0, 0)]) (pc1 := 14) (lo1 := [(0, .int b), (1, .int k)]) (st1 := [.int 0]) (w1 := w0) (by decide +kernel) rfl ?_
    exact M.retz (nx := 15) (by decide +kernel) (by decide) ⟨by simp [hbF, *], rfl⟩
  · refine M.blk (is := [(.iconst 1, 0, 0, 1), (.goto 4, 14, 0, 0)]) (pc1 := 14) (lo1 := [(0, .int b), (1, .int k)]) (st1 := [.int 1]) (w1 := w0) (by decide +kernel) rfl ?_
    exact M.retz (nx := 15) (by decide +kernel) (by decide) ⟨by simp [hbF, *], rfl⟩
theorem s_ones (w0 : Wd) (b : Int32) : CC 0 mX4_ones 0 0 [.int b] w0 (Rt (onA b 25) w0) := by
  refine CC.of okX4_ones.1 (Nat.le_of_ble_eq_true rfl) (fun g M => ?_)
  have lp : ∀ m k, k + m = 25 → g 0 0 4 [(0, .int b), (1, .int (onA b k)), (2, .int (nI k))] [] w0 := by
    intro m
    induction m with
    | zero =>
      intro k hk
      have ek : k = 25 := by omega
      subst ek
      refine M.blk (is := [(.iload_n 2, 2, 0, 0), (.bipush 25, 0, 0, 25)]) (pc1 := 7) (lo1 := [(0, .int b), (1, .int (onA b 25)), (2, .int (nI 25))]) (st1 := [.int 25, .int (nI 25)]) (w1 := w0) (by decide +kernel) rfl ?_
      refine M.icmp_ge (off := 17) (tgt := 24) (nx := 10) (by decide +kernel) (fun z7 => ?_) (fun z7 => by exfalso; exact z7 (by decide))
      refine M.blk (is := [(.iload_n 1, 1, 0, 0)]) (pc1 := 25) (lo1 := [(0, .int b), (1, .int (onA b 25)), (2, .int (nI 25))]) (st1 := [.int (onA b 25)]) (w1 := w0) (by decide +kernel) rfl ?_
      exact M.reti (nx := 26) (by decide +kernel) ⟨rfl, rfl⟩
    | succ m ih =>
      intro k hk
      refine M.blk (is := [(.iload_n 2, 2, 0, 0), (.bipush 25, 0, 0, 25)]) (pc1 := 7) (lo1 := [(0, .int b), (1, .int (onA b k)), (2, .int (nI k))]) (st1 := [.int 25, .int (nI k)]) (w1 := w0) (by decide +kernel) rfl ?_
      refine M.icmp_ge (off := 17) (tgt := 24) (nx := 10) (by decide +kernel) (fun z7 => by exfalso; exact nI_ge (a := k) (b := 25) (by omega) (by decide) z7) (fun z7 => ?_)
      refine M.blk (is := [(.iload_n 1, 1, 0, 0), (.iload_n 0, 0, 0, 0), (.iload_n 2, 2, 0, 0), (.ishr, 0, 0, 0), (.iconst 1, 0, 0, 1), (.iand, 0, 0, 0), (.iadd, 0, 0, 0), (.istore_n 1, 1, 0, 0), (.iinc 2 1, 2, 0, 1), (.goto (-17), 4, 0, 0)]) (pc1 := 4) (lo1 := [(2, .int ((nI k) + 1)), (1, .int ((onA b k) + ((b >>> ((nI k) &&& 31)) &&& 1))), (0, .int b)]) (st1 := []) (w1 := w0) (by decide +kernel) rfl ?_
      refine M.lsub [2, 1, 0] (lo1 := [(0, .int b), (1, .int ((onA b k) + ((b >>> ((nI k) &&& 31)) &&& 1))), (2, .int ((nI k) + 1))]) rfl ?_
      rw [nI_1]
      exact ih (k + 1) (by omega)
  show g 0 0 0 [(0, .int b)] [] w0
  refine M.blk (is := [(.iconst 0, 0, 0, 0), (.istore_n 1, 1, 0, 0), (.iconst 0, 0, 0, 0), (.istore_n 2, 2, 0, 0)]) (pc1 := 4) (lo1 := [(2, .int 0), (1, .int 0), (0, .int b)]) (st1 := []) (w1 := w0) (by decide +kernel) rfl ?_
  refine M.lsub [2, 1, 0] (lo1 := [(0, .int b), (1, .int 0), (2, .int 0)]) rfl ?_
  exact lp 25 0 (by omega)
theorem sgnB_wf {x : Int32} (h1 : ¬ x = 122) (h2 : ¬ x = 111) (h3 : ¬ x = 114) : b2i (sgnB x) = withF x 48 52 := by
  rw [sgnB_fig h1 h2 h3]
  unfold figF withF
  by_cases h4 : x < 48
  · rw [if_pos h4, if_pos h4]
  · rw [if_neg h4, if_neg h4]
    by_cases h5 : 53 ≤ x
    · rw [if_pos h5, if_pos (i32_nle (fun e => (i32_52 x).mp e h5))]
    · rw [if_neg h5, if_neg (fun e => i32_nlt e ((i32_52 x).mpr h5))]
theorem wf_1 {x a b : Int32} (h : ¬ withF x a b = 0) : withF x a b = 1 := by
  unfold withF at h ⊢
  split
  · rename_i h1; rw [if_pos h1] at h; exact absurd rfl h
  · rename_i h1
    rw [if_neg h1] at h
    split
    · rename_i h2; rw [if_pos h2] at h; exact absurd rfl h
    · rfl
theorem s_isSignM (w0 : Wd) (x : Int32) : CC 1 mX4_isSign 0 0 [.int x] w0 (Rt (b2i (sgnB x)) w0) := by
  refine CC.of okX4_isSign.1 (Nat.le_of_ble_eq_true rfl) (fun g M => ?_)
  show g 0 0 0 [(0, .int x)] [] w0
  refine M.blk (is := [(.iload_n 0, 0, 0, 0), (.bipush 122, 0, 0, 122)]) (pc1 := 3) (lo1 := [(0, .int x)]) (st1 := [.int 122, .int x]) (w1 := w0) (by decide +kernel) rfl ?_
  refine M.icmp_eq (off := 26) (tgt := 29) (nx := 6) (by decide +kernel) (fun z3 => ?_) (fun z3 => ?_)
  · refine M.blk (is := [(.iconst 1, 0, 0, 1), (.goto 4, 34, 0, 0)]) (pc1 := 34) (lo1 := [(0, .int x)]) (st1 := [.int 1]) (w1 := w0) (by decide +kernel) rfl ?_
    exact M.retz (nx := 35) (by decide +kernel) (by decide) ⟨by simp [sgnB, b2i, *], rfl⟩
  · refine M.blk (is := [(.iload_n 0, 0, 0, 0), (.bipush 111, 0, 0, 111)]) (pc1 := 9) (lo1 := [(0, .int x)]) (st1 := [.int 111, .int x]) (w1 := w0) (by decide +kernel) rfl ?_
    refine M.icmp_eq (off := 20) (tgt := 29) (nx := 12) (by decide +kernel) (fun z9 => ?_) (fun z9 => ?_)
    · refine M.blk (is := [(.iconst 1, 0, 0, 1), (.goto 4, 34, 0, 0)]) (pc1 := 34) (lo1 := [(0, .int x)]) (st1 := [.int 1]) (w1 := w0) (by decide +kernel) rfl ?_
      exact M.retz (nx := 35) (by decide +kernel) (by decide) ⟨by simp [sgnB, b2i, *], rfl⟩
    · refine M.blk (is := [(.iload_n 0, 0, 0, 0), (.bipush 114, 0, 0, 114)]) (pc1 := 15) (lo1 := [(0, .int x)]) (st1 := [.int 114, .int x]) (w1 := w0) (by decide +kernel) rfl ?_
      refine M.icmp_eq (off := 14) (tgt := 29) (nx := 18) (by decide +kernel) (fun z15 => ?_) (fun z15 => ?_)
      · refine M.blk (is := [(.iconst 1, 0, 0, 1), (.goto 4, 34, 0, 0)]) (pc1 := 34) (lo1 := [(0, .int x)]) (st1 := [.int 1]) (w1 := w0) (by decide +kernel) rfl ?_
        exact M.retz (nx := 35) (by decide +kernel) (by decide) ⟨by simp [sgnB, b2i, *], rfl⟩
      · refine M.blk (is := [(.iload_n 0, 0, 0, 0), (.bipush 48, 0, 0, 48), (.bipush 52, 0, 0, 52)]) (pc1 := 23) (lo1 := [(0, .int x)]) (st1 := [.int 52, .int 48, .int x]) (w1 := w0) (by decide +kernel) rfl ?_
        refine M.callSi (as := [.int x, .int 48, .int 52]) (st := []) (nx := 26) okX4_within lkX4_36 (s_within w0 x 48 52) (by decide +kernel) (by decide) rfl (Nat.le_of_ble_eq_true rfl) ?_
        refine M.if_eq (off := 7) (tgt := 33) (nx := 29) (by decide +kernel) (fun z26 => ?_) (fun z26 => ?_)
        · refine M.blk (is := [(.iconst 0, 0, 0, 0)]) (pc1 := 34) (lo1 := [(0, .int x)]) (st1 := [.int 0]) (w1 := w0) (by decide +kernel) rfl ?_
          exact M.retz (nx := 35) (by decide +kernel) (by decide) ⟨by rw [sgnB_wf z3 z9 z15, z26], rfl⟩
        · refine M.blk (is := [(.iconst 1, 0, 0, 1), (.goto 4, 34, 0, 0)]) (pc1 := 34) (lo1 := [(0, .int x)]) (st1 := [.int 1]) (w1 := w0) (by decide +kernel) rfl ?_
          exact M.retz (nx := 35) (by decide +kernel) (by decide) ⟨by rw [sgnB_wf z3 z9 z15, wf_1 z26], rfl⟩
theorem wf_out {x a b : Int32} (h : withF x a b = 0) : x < a ∨ b < x := by
  unfold withF at h
  by_cases h1 : x < a
  · exact Or.inl h1
  · rw [if_neg h1] at h
    by_cases h2 : b < x
    · exact Or.inr h2
    · rw [if_neg h2] at h; exact absurd h (by decide)
theorem wf_in {x a b : Int32} (h : ¬ withF x a b = 0) : ¬ (x < a ∨ b < x) := by
  intro e
  apply h
  unfold withF
  by_cases h1 : x < a
  · rw [if_pos h1]
  · rw [if_neg h1, if_pos (e.resolve_left h1)]
theorem m_letter {pl : Nat} (h0 : MS 0 = nI pl) (hp : pl ≤ 60) (x : Int32) : CC 1 mX4_letter 0 0 [.ref 0, .int x] (WM MA MS Mh v) (fun r w1 => ((x < 32 ∨ 126 < x) ∧ r = some (.int (-1002)) ∧ w1 = (WM MA MS Mh v)) ∨ (¬ (x < 32 ∨ 126 < x) ∧ pl = 60 ∧ r = some (.int (-1004)) ∧ w1 = (WM MA MS Mh v)) ∨ (¬ (x < 32 ∨ 126 < x) ∧ pl < 60 ∧ r = some (.int (nI (pl + 1))) ∧ w1 = (WM (va_up MA 1 (upd (MA 1) pl x)) (upd MS 0 (nI (pl + 1))) Mh v))) := by
  refine CC.of okX4_letter.1 (Nat.le_of_ble_eq_true rfl) (fun g M => ?_)
  show g 0 0 0 [(0, .ref 0), (1, .int x)] [] (WM MA MS Mh v)
  refine M.blk (is := [(.iload_n 1, 1, 0, 0), (.bipush 32, 0, 0, 32), (.bipush 126, 0, 0, 126)]) (pc1 := 5) (lo1 := [(0, .ref 0), (1, .int x)]) (st1 := [.int 126, .int 32, .int x]) (w1 := (WM MA MS Mh v)) (by decide +kernel) rfl ?_
  refine M.callSi (as := [.int x, .int 32, .int 126]) (st := []) (nx := 8) okX4_within lkX4_36 (s_within (WM MA MS Mh v) x 32 126) (by decide +kernel) (by decide) rfl (Nat.le_of_ble_eq_true rfl) ?_
  refine M.if_ne (off := 7) (tgt := 15) (nx := 11) (by decide +kernel) (fun z8 => ?_) (fun z8 => ?_)
  · refine M.blk (is := [(.aload_n 0, 0, 0, 0), (.getfield 40, 4, 0, 0), (.bipush 60, 0, 0, 60)]) (pc1 := 21) (lo1 := [(0, .ref 0), (1, .int x)]) (st1 := [.int 60, .int (MS 0)]) (w1 := (WM MA MS Mh v)) (by decide +kernel) rfl ?_
    refine M.icmp_ne (off := 7) (tgt := 28) (nx := 24) (by decide +kernel) (fun z21 => ?_) (fun z21 => ?_)
    · have hlt : pl < 60 := by
        rcases Nat.lt_or_ge pl 60 with h | h
        · exact h
        · exact absurd (by rw [h0, show pl = 60 by omega]; rfl) z21
      refine M.blk (is := [(.aload_n 0, 0, 0, 0), (.getfield 7, 4, 1, 0), (.aload_n 0, 0, 0, 0), (.getfield 40, 4, 0, 0), (.iload_n 1, 1, 0, 0)]) (pc1 := 37) (lo1 := [(0, .ref 0), (1, .int x)]) (st1 := [.int x, .int (MS 0), .ref 1]) (w1 := (WM MA MS Mh v)) (by decide +kernel) rfl ?_
      refine M.ast (n := 60) (f := MA 1) (j := pl) (nx := 38) (by decide +kernel) rfl h0 hlt (by decide) ?_
      show g 0 0 38 [(0, .ref 0), (1, .int x)] [] (WM (va_up MA 1 (upd (MA 1) pl x)) MS Mh v)
      refine M.blk (is := [(.aload_n 0, 0, 0, 0), (.dup, 0, 0, 0), (.getfield 40, 4, 0, 0), (.iconst 1, 0, 0, 1), (.iadd, 0, 0, 0), (.putfield 40, 4, 0, 0), (.aload_n 0, 0, 0, 0), (.getfield 40, 4, 0, 0)]) (pc1 := 52) (lo1 := [(0, .ref 0), (1, .int x)]) (st1 := [.int ((MS 0) + 1)]) (w1 := (WM (va_up MA 1 (upd (MA 1) pl x)) (upd MS 0 ((MS 0) + 1)) Mh v)) (by decide +kernel) rfl ?_
      exact M.reti (nx := 53) (by decide +kernel) (Or.inr (Or.inr ⟨wf_in z8, hlt, by rw [h0, nI_1], by rw [h0, nI_1]⟩))
    · refine M.blk (is := [(.sipush (-1004), 0, 0, (-1004))]) (pc1 := 27) (lo1 := [(0, .ref 0), (1, .int x)]) (st1 := [.int (-1004)]) (w1 := (WM MA MS Mh v)) (by decide +kernel) rfl ?_
      exact M.reti (nx := 28) (by decide +kernel) (Or.inr (Or.inl ⟨wf_in z8, nI_inj (by omega) (by decide) (h0.symm.trans z21), rfl, rfl⟩))
  · refine M.blk (is := [(.sipush (-1002), 0, 0, (-1002))]) (pc1 := 14) (lo1 := [(0, .ref 0), (1, .int x)]) (st1 := [.int (-1002)]) (w1 := (WM MA MS Mh v)) (by decide +kernel) rfl ?_
    exact M.reti (nx := 15) (by decide +kernel) (Or.inl ⟨wf_out z8, rfl, rfl⟩)
theorem m_blank : CC 0 mX4_blank 0 0 [.ref 0] (WM MA MS Mh v) (Rt (MS 0) (WM MA (upd MS 0 0) Mh v)) := by
  refine CC.of okX4_blank.1 (Nat.le_of_ble_eq_true rfl) (fun g M => ?_)
  show g 0 0 0 [(0, .ref 0)] [] (WM MA MS Mh v)
  refine M.blk (is := [(.aload_n 0, 0, 0, 0), (.getfield 40, 4, 0, 0), (.istore_n 1, 1, 0, 0), (.aload_n 0, 0, 0, 0), (.iconst 0, 0, 0, 0), (.putfield 40, 4, 0, 0), (.iload_n 1, 1, 0, 0)]) (pc1 := 11) (lo1 := [(1, .int (MS 0)), (0, .ref 0)]) (st1 := [.int (MS 0)]) (w1 := (WM MA (upd MS 0 0) Mh v)) (by decide +kernel) rfl ?_
  exact M.reti (nx := 12) (by decide +kernel) ⟨rfl, rfl⟩
theorem m_fault {pl : Nat} (h0 : MS 0 = nI pl) (hp : pl ≤ 60) : CC 2 mX4_fault 0 0 [.ref 0] (WM MA MS Mh v) (Rt (nI (flt (MA 1) pl 0)) (WM MA MS Mh v)) := by
  refine CC.of okX4_fault.1 (Nat.le_of_ble_eq_true rfl) (fun g M => ?_)
  have lp : ∀ m k, k + m = pl → flt (MA 1) pl 0 = flt (MA 1) m k → g 0 0 2 [(0, .ref 0), (1, .int (nI k))] [] (WM MA MS Mh v) := by
    intro m
    induction m with
    | zero =>
      intro k hk he
      have ek : pl = k := by omega
      subst ek
      refine M.blk (is := [(.iload_n 1, 1, 0, 0), (.aload_n 0, 0, 0, 0), (.getfield 40, 4, 0, 0)]) (pc1 := 7) (lo1 := [(0, .ref 0), (1, .int (nI pl))]) (st1 := [.int (MS 0), .int (nI pl)]) (w1 := (WM MA MS Mh v)) (by decide +kernel) rfl ?_
      refine M.icmp_ge (off := 21) (tgt := 28) (nx := 10) (by decide +kernel) (fun z7 => ?_) (fun z7 => by exfalso; exact z7 (by rw [h0]; exact nI_le (Nat.le_refl _) (by omega)))
      refine M.blk (is := [(.iload_n 1, 1, 0, 0)]) (pc1 := 29) (lo1 := [(0, .ref 0), (1, .int (nI pl))]) (st1 := [.int (nI pl)]) (w1 := (WM MA MS Mh v)) (by decide +kernel) rfl ?_
      exact M.reti (nx := 30) (by decide +kernel) ⟨by rw [he]; rfl, rfl⟩
    | succ m ih =>
      intro k hk he
      rw [flt_succ] at he
      refine M.blk (is := [(.iload_n 1, 1, 0, 0), (.aload_n 0, 0, 0, 0), (.getfield 40, 4, 0, 0)]) (pc1 := 7) (lo1 := [(0, .ref 0), (1, .int (nI k))]) (st1 := [.int (MS 0), .int (nI k)]) (w1 := (WM MA MS Mh v)) (by decide +kernel) rfl ?_
      refine M.icmp_ge (off := 21) (tgt := 28) (nx := 10) (by decide +kernel) (fun z7 => by exfalso; rw [h0] at z7; exact nI_ge (show k < pl by omega) (by omega) z7) (fun z7 => ?_)
      refine M.blk (is := [(.aload_n 0, 0, 0, 0), (.getfield 7, 4, 1, 0), (.iload_n 1, 1, 0, 0)]) (pc1 := 15) (lo1 := [(0, .ref 0), (1, .int (nI k))]) (st1 := [.int (nI k), .ref 1]) (w1 := (WM MA MS Mh v)) (by decide +kernel) rfl ?_
      refine M.ald (n := 60) (f := MA 1) (j := k) (nx := 16) (by decide +kernel) rfl rfl (by omega) (by decide) ?_
      refine M.callSi (as := [.int ((MA 1) k)]) (st := []) (nx := 19) okX4_isSign lkX4_43 (s_isSignM (WM MA MS Mh v) ((MA 1) k)) (by decide +kernel) (by decide) rfl (Nat.le_of_ble_eq_true rfl) ?_
      refine M.if_eq (off := 9) (tgt := 28) (nx := 22) (by decide +kernel) (fun z19 => ?_) (fun z19 => ?_)
      · refine M.blk (is := [(.iload_n 1, 1, 0, 0)]) (pc1 := 29) (lo1 := [(0, .ref 0), (1, .int (nI k))]) (st1 := [.int (nI k)]) (w1 := (WM MA MS Mh v)) (by decide +kernel) rfl ?_
        exact M.reti (nx := 30) (by decide +kernel) ⟨by rw [he, if_neg (b2i_f z19)], rfl⟩
      · refine M.blk (is := [(.iinc 1 1, 1, 0, 1), (.goto (-23), 2, 0, 0)]) (pc1 := 2) (lo1 := [(1, .int ((nI k) + 1)), (0, .ref 0)]) (st1 := []) (w1 := (WM MA MS Mh v)) (by decide +kernel) rfl ?_
        refine M.lsub [1, 0] (lo1 := [(0, .ref 0), (1, .int ((nI k) + 1))]) rfl ?_
        rw [nI_1]
        exact ih (k + 1) (by omega) (by rw [he, if_pos (b2i_t z19)])
  show g 0 0 0 [(0, .ref 0)] [] (WM MA MS Mh v)
  refine M.blk (is := [(.iconst 0, 0, 0, 0), (.istore_n 1, 1, 0, 0)]) (pc1 := 2) (lo1 := [(1, .int 0), (0, .ref 0)]) (st1 := []) (w1 := (WM MA MS Mh v)) (by decide +kernel) rfl ?_
  refine M.lsub [1, 0] (lo1 := [(0, .ref 0), (1, .int 0)]) rfl ?_
  exact lp pl 0 (by omega) rfl
theorem wf_sl (x : Int32) {sl : Nat} (hs : sl < 1000) : (withF x 0 (nI sl - 1) = 0 ∧ ∀ k, k < sl → ¬ x = nI k) ∨ (withF x 0 (nI sl - 1) = 1 ∧ ∃ k, k < sl ∧ x = nI k) := by
  rcases Nat.eq_zero_or_pos sl with e | e
  · subst e
    left
    refine ⟨?_, fun k hk => absurd hk (Nat.not_lt_zero _)⟩
    unfold withF
    by_cases h1 : x < 0
    · rw [if_pos h1]
    · rw [if_neg h1, if_pos]
      rw [Int32.lt_iff_toInt_lt] at h1 ⊢
      have e1 : (nI 0 - 1).toInt = -1 := by decide
      have e2 : (0 : Int32).toInt = 0 := by decide
      omega
  · rw [show nI sl - 1 = nI (sl - 1) by rw [show (1 : Int32) = nI 1 from rfl, pk_sub (by omega)]]
    rcases wf_cases x (a := 0) (b := sl - 1) (by omega) (by omega) with ⟨h1, h2⟩ | ⟨h1, k, _, hk, e2⟩
    · exact Or.inl ⟨h1, fun k hk => h2 k (Nat.zero_le _) (by omega)⟩
    · exact Or.inr ⟨h1, k, by omega, e2⟩
theorem m_step {sl : Nat} (h2 : MS 2 = nI sl) (hs : sl ≤ 64) (x : Int32) : CC 1 mX4_step 0 0 [.ref 0, .int x] (WM MA MS Mh v) (fun r w1 => w1 = (WM MA MS Mh v) ∧ ((∃ k, k < sl ∧ x = nI k ∧ r = some (.int (MA 3 k))) ∨ ((∀ k, k < sl → ¬ x = nI k) ∧ r = some (.int (-1001))))) := by
  refine CC.of okX4_step.1 (Nat.le_of_ble_eq_true rfl) (fun g M => ?_)
  have hcs := wf_sl x (sl := sl) (by omega)
  rw [← h2] at hcs
  show g 0 0 0 [(0, .ref 0), (1, .int x)] [] (WM MA MS Mh v)
  refine M.blk (is := [(.iload_n 1, 1, 0, 0), (.iconst 0, 0, 0, 0), (.aload_n 0, 0, 0, 0), (.getfield 51, 4, 2, 0), (.iconst 1, 0, 0, 1), (.isub, 0, 0, 0)]) (pc1 := 8) (lo1 := [(0, .ref 0), (1, .int x)]) (st1 := [.int ((MS 2) - 1), .int 0, .int x]) (w1 := (WM MA MS Mh v)) (by decide +kernel) rfl ?_
  refine M.callSi (as := [.int x, .int 0, .int ((MS 2) - 1)]) (st := []) (nx := 11) okX4_within lkX4_36 (s_within (WM MA MS Mh v) x 0 ((MS 2) - 1)) (by decide +kernel) (by decide) rfl (Nat.le_of_ble_eq_true rfl) ?_
  refine M.if_eq (off := 12) (tgt := 23) (nx := 14) (by decide +kernel) (fun z11 => ?_) (fun z11 => ?_)
  · refine M.blk (is := [(.sipush (-1001), 0, 0, (-1001))]) (pc1 := 26) (lo1 := [(0, .ref 0), (1, .int x)]) (st1 := [.int (-1001)]) (w1 := (WM MA MS Mh v)) (by decide +kernel) rfl ?_
    exact M.reti (nx := 27) (by decide +kernel) ⟨rfl, Or.inr ⟨by rcases hcs with ⟨_, h⟩ | ⟨e, _⟩; exact h; rw [z11] at e; exact absurd e (by decide), rfl⟩⟩
  · obtain ⟨k, hk, rfl⟩ : ∃ k, k < sl ∧ x = nI k := by
      rcases hcs with ⟨e, _⟩ | ⟨_, h⟩
      · exact absurd e z11
      · exact h
    refine M.blk (is := [(.aload_n 0, 0, 0, 0), (.getfield 13, 4, 3, 0), (.iload_n 1, 1, 0, 0)]) (pc1 := 19) (lo1 := [(0, .ref 0), (1, .int (nI k))]) (st1 := [.int (nI k), .ref 2]) (w1 := (WM MA MS Mh v)) (by decide +kernel) rfl ?_
    refine M.ald (n := 64) (f := MA 3) (j := k) (nx := 20) (by decide +kernel) rfl rfl (by omega) (by decide) ?_
    refine M.blk (is := [(.goto 6, 26, 0, 0)]) (pc1 := 26) (lo1 := [(0, .ref 0), (1, .int (nI k))]) (st1 := [.int ((MA 3) k)]) (w1 := (WM MA MS Mh v)) (by decide +kernel) rfl ?_
    exact M.reti (nx := 27) (by decide +kernel) ⟨rfl, Or.inl ⟨k, hk, rfl, rfl⟩⟩
theorem m_altered : CC 0 mX4_altered 0 0 [.ref 0] (WM MA MS Mh v) (fun r w1 => r = none ∧ ∃ MB, w1 = WM MB MS Mh v ∧ (∀ i, i ≠ 24 → MB i = MA i) ∧ (∀ a, a < 75 → MB 24 a = 0)) := by
  refine CC.of okX4_altered.1 (Nat.le_of_ble_eq_true rfl) (fun g M => ?_)
  have lp : ∀ m k MB, k + m = 75 → (∀ i, i ≠ 24 → MB i = MA i) → (∀ a, a < k → MB 24 a = 0) → g 0 0 2 [(0, .ref 0), (1, .int (nI k))] [] (WM MB MS Mh v) := by
    intro m
    induction m with
    | zero =>
      intro k MB hk h1 h2
      have ek : k = 75 := by omega
      subst ek
      refine M.blk (is := [(.iload_n 1, 1, 0, 0), (.bipush 75, 0, 0, 75)]) (pc1 := 5) (lo1 := [(0, .ref 0), (1, .int (nI 75))]) (st1 := [.int 75, .int (nI 75)]) (w1 := (WM MB MS Mh v)) (by decide +kernel) rfl ?_
      refine M.icmp_ge (off := 16) (tgt := 21) (nx := 8) (by decide +kernel) (fun z5 => ?_) (fun z5 => by exfalso; exact z5 (by decide))
      exact M.retv (nx := 22) (by decide +kernel) ⟨rfl, MB, rfl, h1, h2⟩
    | succ m ih =>
      intro k MB hk h1 h2
      refine M.blk (is := [(.iload_n 1, 1, 0, 0), (.bipush 75, 0, 0, 75)]) (pc1 := 5) (lo1 := [(0, .ref 0), (1, .int (nI k))]) (st1 := [.int 75, .int (nI k)]) (w1 := (WM MB MS Mh v)) (by decide +kernel) rfl ?_
      refine M.icmp_ge (off := 16) (tgt := 21) (nx := 8) (by decide +kernel) (fun z5 => by exfalso; exact nI_ge (a := k) (b := 75) (by omega) (by decide) z5) (fun z5 => ?_)
      refine M.blk (is := [(.aload_n 0, 0, 0, 0), (.getfield 29, 4, 24, 0), (.iload_n 1, 1, 0, 0), (.iconst 0, 0, 0, 0)]) (pc1 := 14) (lo1 := [(0, .ref 0), (1, .int (nI k))]) (st1 := [.int 0, .int (nI k), .ref 4]) (w1 := (WM MB MS Mh v)) (by decide +kernel) rfl ?_
      refine M.zst (n := 75) (f := MB 24) (j := k) (nx := 15) (by decide +kernel) rfl rfl (by omega) (by decide) (by decide) ?_
      show g 0 0 15 [(0, .ref 0), (1, .int (nI k))] [] (WM (va_up MB 24 (upd (MB 24) k 0)) MS Mh v)
      refine M.blk (is := [(.iinc 1 1, 1, 0, 1), (.goto (-16), 2, 0, 0)]) (pc1 := 2) (lo1 := [(1, .int ((nI k) + 1)), (0, .ref 0)]) (st1 := []) (w1 := (WM (va_up MB 24 (upd (MB 24) k 0)) MS Mh v)) (by decide +kernel) rfl ?_
      refine M.lsub [1, 0] (lo1 := [(0, .ref 0), (1, .int ((nI k) + 1))]) rfl ?_
      rw [nI_1]
      refine ih (k + 1) _ (by omega) (fun i hi => (va_upN _ _ hi).trans (h1 i hi)) (fun a ha => ?_)
      by_cases e : a = k
      · subst e; rw [va_upS, pk_us]
      · rw [va_upS, pk_un e]; exact h2 a (by omega)
  show g 0 0 0 [(0, .ref 0)] [] (WM MA MS Mh v)
  refine M.blk (is := [(.iconst 0, 0, 0, 0), (.istore_n 1, 1, 0, 0)]) (pc1 := 2) (lo1 := [(1, .int 0), (0, .ref 0)]) (st1 := []) (w1 := (WM MA MS Mh v)) (by decide +kernel) rfl ?_
  refine M.lsub [1, 0] (lo1 := [(0, .ref 0), (1, .int 0)]) rfl ?_
  exact lp 75 0 MA (by omega) (fun _ _ => rfl) (fun a ha => absurd ha (Nat.not_lt_zero _))
theorem m_test {pl : Nat} (h0 : MS 0 = nI pl) (hp : pl ≤ 60) : CC 3 mX4_test 0 0 [.ref 0] (WM MA MS Mh v) (fun r w1 => ((pl = 0 ∨ flt (MA 1) pl 0 < pl) ∧ r = some (.int (-1003)) ∧ w1 = (WM MA MS Mh v)) ∨ (¬ (pl = 0 ∨ flt (MA 1) pl 0 < pl) ∧ r = some (.int (nI pl)) ∧ ∃ MB, w1 = WM MB (upd (upd MS 2 (nI pl)) 0 0) Mh v ∧ (∀ j, j < pl → MB 3 j = MA 1 j) ∧ (∀ i, i ≠ 24 → i ≠ 3 → MB i = MA i) ∧ (∀ a, a < 75 → MB 24 a = 0))) := by
  refine CC.of okX4_test.1 (Nat.le_of_ble_eq_true rfl) (fun g M => ?_)
  have hfl := (flt_ge (MA 1) pl 0).2
  show g 0 0 0 [(0, .ref 0)] [] (WM MA MS Mh v)
  refine M.blk (is := [(.aload_n 0, 0, 0, 0), (.getfield 40, 4, 0, 0)]) (pc1 := 4) (lo1 := [(0, .ref 0)]) (st1 := [.int (MS 0)]) (w1 := (WM MA MS Mh v)) (by decide +kernel) rfl ?_
  refine M.if_eq (off := 14) (tgt := 18) (nx := 7) (by decide +kernel) (fun z4 => ?_) (fun z4 => ?_)
  · refine M.blk (is := [(.sipush (-1003), 0, 0, (-1003))]) (pc1 := 21) (lo1 := [(0, .ref 0)]) (st1 := [.int (-1003)]) (w1 := (WM MA MS Mh v)) (by decide +kernel) rfl ?_
    exact M.reti (nx := 22) (by decide +kernel) (Or.inl ⟨Or.inl (nI_inj (by omega) (by decide) (h0.symm.trans z4)), rfl, rfl⟩)
  · refine M.blk (is := [(.aload_n 0, 0, 0, 0)]) (pc1 := 8) (lo1 := [(0, .ref 0)]) (st1 := [.ref 0]) (w1 := (WM MA MS Mh v)) (by decide +kernel) rfl ?_
    refine M.callVi (as := []) (st := []) (nx := 11) okX4_fault lkX4_47 (m_fault h0 hp) (by decide +kernel) (by decide) rfl (Nat.le_of_ble_eq_true rfl) rfl (by decide) ?_
    refine M.blk (is := [(.aload_n 0, 0, 0, 0), (.getfield 40, 4, 0, 0)]) (pc1 := 15) (lo1 := [(0, .ref 0)]) (st1 := [.int (MS 0), .int (nI (flt (MA 1) pl 0))]) (w1 := (WM MA MS Mh v)) (by decide +kernel) rfl ?_
    refine M.icmp_ge (off := 7) (tgt := 22) (nx := 18) (by decide +kernel) (fun z15 => ?_) (fun z15 => ?_)
    · have hp0 : ¬ pl = 0 := fun e => z4 (by rw [h0, e]; rfl)
      have hge : ¬ flt (MA 1) pl 0 < pl := fun e => by rw [h0] at z15; exact nI_ge e (by omega) z15
      have lp : ∀ m k MD, k + m = pl → (∀ i, i ≠ 3 → MD i = MA i) → (∀ j, j < k → MD 3 j = MA 1 j) → g 0 0 32 [(0, .ref 0), (1, .int (nI k))] [] (WM MD (upd MS 2 (nI pl)) Mh v) := by
        intro m
        induction m with
        | zero =>
          intro k MD hk hi hj
          have ek : pl = k := by omega
          subst ek
          refine M.blk (is := [(.iload_n 1, 1, 0, 0), (.aload_n 0, 0, 0, 0), (.getfield 51, 4, 2, 0)]) (pc1 := 37) (lo1 := [(0, .ref 0), (1, .int (nI pl))]) (st1 := [.int (nI pl), .int (nI pl)]) (w1 := (WM MD (upd MS 2 (nI pl)) Mh v)) (by decide +kernel) rfl ?_
          refine M.icmp_ge (off := 21) (tgt := 58) (nx := 40) (by decide +kernel) (fun z37 => ?_) (fun z37 => by exfalso; exact z37 (nI_le (Nat.le_refl _) (by omega)))
          refine M.blk (is := [(.aload_n 0, 0, 0, 0), (.iconst 0, 0, 0, 0), (.putfield 40, 4, 0, 0), (.aload_n 0, 0, 0, 0)]) (pc1 := 64) (lo1 := [(0, .ref 0), (1, .int (nI pl))]) (st1 := [.ref 0]) (w1 := (WM MD (upd (upd MS 2 (nI pl)) 0 0) Mh v)) (by decide +kernel) rfl ?_
          refine M.callV (as := []) (st := []) (nx := 67) okX4_altered lkX4_54 m_altered (by decide +kernel) (by decide) rfl (Nat.le_of_ble_eq_true rfl) rfl (by decide) ⟨by decide, by decide⟩ ?_
          intro r0 w1 hq
          obtain ⟨rfl, MB, rfl, hal1, hal2⟩ := hq
          show g 0 0 67 [(0, .ref 0), (1, .int (nI pl))] [] (WM MB (upd (upd MS 2 (nI pl)) 0 0) Mh v)
          refine M.blk (is := [(.aload_n 0, 0, 0, 0), (.getfield 51, 4, 2, 0)]) (pc1 := 71) (lo1 := [(0, .ref 0), (1, .int (nI pl))]) (st1 := [.int (nI pl)]) (w1 := (WM MB (upd (upd MS 2 (nI pl)) 0 0) Mh v)) (by decide +kernel) rfl ?_
          exact M.reti (nx := 72) (by decide +kernel) (Or.inr ⟨fun e => e.elim hp0 hge, rfl, MB, rfl, fun j h => by rw [hal1 3 (by decide)]; exact hj j h, fun i h1 h2 => (hal1 i h1).trans (hi i h2), hal2⟩)
        | succ m ih =>
          intro k MD hk hi hj
          refine M.blk (is := [(.iload_n 1, 1, 0, 0), (.aload_n 0, 0, 0, 0), (.getfield 51, 4, 2, 0)]) (pc1 := 37) (lo1 := [(0, .ref 0), (1, .int (nI k))]) (st1 := [.int (nI pl), .int (nI k)]) (w1 := (WM MD (upd MS 2 (nI pl)) Mh v)) (by decide +kernel) rfl ?_
          refine M.icmp_ge (off := 21) (tgt := 58) (nx := 40) (by decide +kernel) (fun z37 => by exfalso; exact nI_ge (show k < pl by omega) (by omega) z37) (fun z37 => ?_)
          refine M.blk (is := [(.aload_n 0, 0, 0, 0), (.getfield 13, 4, 3, 0), (.iload_n 1, 1, 0, 0), (.aload_n 0, 0, 0, 0), (.getfield 7, 4, 1, 0), (.iload_n 1, 1, 0, 0)]) (pc1 := 50) (lo1 := [(0, .ref 0), (1, .int (nI k))]) (st1 := [.int (nI k), .ref 1, .int (nI k), .ref 2]) (w1 := (WM MD (upd MS 2 (nI pl)) Mh v)) (by decide +kernel) rfl ?_
          refine M.ald (n := 60) (f := MD 1) (j := k) (nx := 51) (by decide +kernel) rfl rfl (by omega) (by decide) ?_
          refine M.ast (n := 64) (f := MD 3) (j := k) (nx := 52) (by decide +kernel) rfl rfl (by omega) (by decide) ?_
          show g 0 0 52 [(0, .ref 0), (1, .int (nI k))] [] (WM (va_up MD 3 (upd (MD 3) k ((MD 1) k))) (upd MS 2 (nI pl)) Mh v)
          refine M.blk (is := [(.iinc 1 1, 1, 0, 1), (.goto (-23), 32, 0, 0)]) (pc1 := 32) (lo1 := [(1, .int ((nI k) + 1)), (0, .ref 0)]) (st1 := []) (w1 := (WM (va_up MD 3 (upd (MD 3) k ((MD 1) k))) (upd MS 2 (nI pl)) Mh v)) (by decide +kernel) rfl ?_
          refine M.lsub [1, 0] (lo1 := [(0, .ref 0), (1, .int ((nI k) + 1))]) rfl ?_
          rw [nI_1]
          refine ih (k + 1) _ (by omega) (fun i h => (va_upN _ _ h).trans (hi i h)) (fun j h => ?_)
          by_cases e : j = k
          · subst e; rw [va_upS, pk_us, hi 1 (by decide)]
          · rw [va_upS, pk_un e]; exact hj j (by omega)
      refine M.blk (is := [(.aload_n 0, 0, 0, 0), (.aload_n 0, 0, 0, 0), (.getfield 40, 4, 0, 0), (.putfield 51, 4, 2, 0)]) (pc1 := 30) (lo1 := [(0, .ref 0)]) (st1 := []) (w1 := (WM MA (upd MS 2 (MS 0)) Mh v)) (by decide +kernel) rfl ?_
      rw [h0]
      refine M.blk (is := [(.iconst 0, 0, 0, 0), (.istore_n 1, 1, 0, 0)]) (pc1 := 32) (lo1 := [(1, .int 0), (0, .ref 0)]) (st1 := []) (w1 := (WM MA (upd MS 2 (nI pl)) Mh v)) (by decide +kernel) rfl ?_
      refine M.lsub [1, 0] (lo1 := [(0, .ref 0), (1, .int 0)]) rfl ?_
      exact lp pl 0 MA (by omega) (fun _ _ => rfl) (fun j h => absurd h (Nat.not_lt_zero _))
    · refine M.blk (is := [(.sipush (-1003), 0, 0, (-1003))]) (pc1 := 21) (lo1 := [(0, .ref 0)]) (st1 := [.int (-1003)]) (w1 := (WM MA MS Mh v)) (by decide +kernel) rfl ?_
      exact M.reti (nx := 22) (by decide +kernel) (Or.inl ⟨Or.inr ((nI_ltI (by omega) (by omega)).mp (h0 ▸ i32_nle z15)), rfl, rfl⟩)
theorem gr_t : ∀ (k : Fin 32) (t : Fin 6), 1 ≤ k.val → (((nI k.val >>> ((nI t.val + 1) &&& 31)) <<< ((nI t.val + 1) &&& 31) = nI k.val) ↔ t.val < ntz k.val) ∨ ntz k.val < t.val := by decide +kernel
theorem m_gray : CC 3 mX4_gray 0 0 [.ref 0] (WM MA MS Mh v) (fun r w1 => r = some (.int 64) ∧ ∃ MB, w1 = WM MB (upd MS 2 64) Mh v ∧ (∀ j, j < 64 → MB 3 j = gry j) ∧ (∀ i, i ≠ 24 → i ≠ 3 → MB i = MA i) ∧ (∀ a, a < 75 → MB 24 a = 0)) := by
  refine CC.of okX4_gray.1 (Nat.le_of_ble_eq_true rfl) (fun g M => ?_)
  have lp : ∀ m k MD, k + m = 32 → 1 ≤ k → (∀ i, i ≠ 3 → MD i = MA i) → (∀ j, j < 2 * k → MD 3 j = gry j) → g 0 0 24 [(0, .ref 0), (1, .int (nI k))] [] (WM MD (upd MS 2 64) Mh v) := by
    intro m
    induction m with
    | zero =>
      intro k MD hk h1 hi hj
      have ek : k = 32 := by omega
      subst ek
      refine M.blk (is := [(.iload_n 1, 1, 0, 0), (.bipush 32, 0, 0, 32)]) (pc1 := 27) (lo1 := [(0, .ref 0), (1, .int (nI 32))]) (st1 := [.int 32, .int (nI 32)]) (w1 := (WM MD (upd MS 2 64) Mh v)) (by decide +kernel) rfl ?_
      refine M.icmp_ge (off := 54) (tgt := 81) (nx := 30) (by decide +kernel) (fun z27 => ?_) (fun z27 => by exfalso; exact z27 (by decide))
      refine M.blk (is := [(.aload_n 0, 0, 0, 0)]) (pc1 := 82) (lo1 := [(0, .ref 0), (1, .int (nI 32))]) (st1 := [.ref 0]) (w1 := (WM MD (upd MS 2 64) Mh v)) (by decide +kernel) rfl ?_
      refine M.callV (as := []) (st := []) (nx := 85) okX4_altered lkX4_54 m_altered (by decide +kernel) (by decide) rfl (Nat.le_of_ble_eq_true rfl) rfl (by decide) ⟨by decide, by decide⟩ ?_
      intro r0 w1 hq
      obtain ⟨rfl, MB, rfl, hal1, hal2⟩ := hq
      show g 0 0 85 [(0, .ref 0), (1, .int (nI 32))] [] (WM MB (upd MS 2 64) Mh v)
      refine M.blk (is := [(.aload_n 0, 0, 0, 0), (.getfield 51, 4, 2, 0)]) (pc1 := 89) (lo1 := [(0, .ref 0), (1, .int (nI 32))]) (st1 := [.int 64]) (w1 := (WM MB (upd MS 2 64) Mh v)) (by decide +kernel) rfl ?_
      exact M.reti (nx := 90) (by decide +kernel) ⟨rfl, MB, rfl, fun j h => by rw [hal1 3 (by decide)]; exact hj j h, fun i h1 h2 => (hal1 i h1).trans (hi i h2), hal2⟩
    | succ m ih =>
      intro k MD hk h1 hi hj
      have h4 := ntz_4 k
      have lt : ∀ m2 t, t + m2 = ntz k → g 0 0 32 [(0, .ref 0), (1, .int (nI k)), (2, .int (nI t))] [] (WM MD (upd MS 2 64) Mh v) := by
        intro m2
        induction m2 with
        | zero =>
          intro t ht
          have et : t = ntz k := by omega
          subst et
          have hg := gr_t ⟨k, by omega⟩ ⟨ntz k, by omega⟩ h1
          dsimp only at hg
          refine M.blk (is := [(.iload_n 1, 1, 0, 0), (.iload_n 2, 2, 0, 0), (.iconst 1, 0, 0, 1), (.iadd, 0, 0, 0), (.ishr, 0, 0, 0), (.iload_n 2, 2, 0, 0), (.iconst 1, 0, 0, 1), (.iadd, 0, 0, 0), (.ishl, 0, 0, 0), (.iload_n 1, 1, 0, 0)]) (pc1 := 42) (lo1 := [(0, .ref 0), (1, .int (nI k)), (2, .int (nI (ntz k)))]) (st1 := [.int (nI k), .int (((nI k) >>> (((nI (ntz k)) + 1) &&& 31)) <<< (((nI (ntz k)) + 1) &&& 31))]) (w1 := (WM MD (upd MS 2 64) Mh v)) (by decide +kernel) rfl ?_
          refine M.icmp_ne (off := 9) (tgt := 51) (nx := 45) (by decide +kernel) (fun z42 => ?_) (fun z42 => by exfalso; rcases hg with hg | hg; exact absurd (hg.mp z42) (Nat.lt_irrefl _); omega)
          refine M.blk (is := [(.aload_n 0, 0, 0, 0), (.getfield 13, 4, 3, 0), (.iconst 2, 0, 0, 2), (.iload_n 1, 1, 0, 0), (.imul, 0, 0, 0), (.bipush 48, 0, 0, 48), (.iload_n 2, 2, 0, 0), (.iadd, 0, 0, 0)]) (pc1 := 62) (lo1 := [(0, .ref 0), (1, .int (nI k)), (2, .int (nI (ntz k)))]) (st1 := [.int (48 + (nI (ntz k))), .int (2 * (nI k)), .ref 2]) (w1 := (WM MD (upd MS 2 64) Mh v)) (by decide +kernel) rfl ?_
          refine M.ast (n := 64) (f := MD 3) (j := 2 * k) (nx := 63) (by decide +kernel) rfl (by rw [show (2 : Int32) = nI 2 from rfl, pk_mul]) (by omega) (by decide) ?_
          show g 0 0 63 [(0, .ref 0), (1, .int (nI k)), (2, .int (nI (ntz k)))] [] (WM (va_up MD 3 (upd (MD 3) (2 * k) (48 + (nI (ntz k))))) (upd MS 2 64) Mh v)
          refine M.blk (is := [(.aload_n 0, 0, 0, 0), (.getfield 13, 4, 3, 0), (.iconst 2, 0, 0, 2), (.iload_n 1, 1, 0, 0), (.imul, 0, 0, 0), (.iconst 1, 0, 0, 1), (.iadd, 0, 0, 0), (.bipush 114, 0, 0, 114)]) (pc1 := 74) (lo1 := [(0, .ref 0), (1, .int (nI k)), (2, .int (nI (ntz k)))]) (st1 := [.int 114, .int ((2 * (nI k)) + 1), .ref 2]) (w1 := (WM (va_up MD 3 (upd (MD 3) (2 * k) (48 + (nI (ntz k))))) (upd MS 2 64) Mh v)) (by decide +kernel) rfl ?_
          refine M.ast (n := 64) (f := upd (MD 3) (2 * k) (48 + (nI (ntz k)))) (j := 2 * k + 1) (nx := 75) (by decide +kernel) rfl (by rw [show (2 : Int32) = nI 2 from rfl, pk_mul, nI_1]) (by omega) (by decide) ?_
          show g 0 0 75 [(0, .ref 0), (1, .int (nI k)), (2, .int (nI (ntz k)))] [] (WM (va_up MD 3 (upd (upd (MD 3) (2 * k) (48 + (nI (ntz k)))) (2 * k + 1) 114)) (upd MS 2 64) Mh v)
          refine M.blk (is := [(.iinc 1 1, 1, 0, 1), (.goto (-54), 24, 0, 0)]) (pc1 := 24) (lo1 := [(1, .int ((nI k) + 1)), (0, .ref 0), (2, .int (nI (ntz k)))]) (st1 := []) (w1 := (WM (va_up MD 3 (upd (upd (MD 3) (2 * k) (48 + (nI (ntz k)))) (2 * k + 1) 114)) (upd MS 2 64) Mh v)) (by decide +kernel) rfl ?_
          refine M.lsub [1, 0] (lo1 := [(0, .ref 0), (1, .int ((nI k) + 1))]) rfl ?_
          rw [nI_1]
          refine ih (k + 1) _ (by omega) (by omega) (fun i h => (va_upN _ _ h).trans (hi i h)) (fun j h => ?_)
          rw [va_upS]
          by_cases e1 : j = 2 * k + 1
          · rw [e1, pk_us]; unfold gry; rw [if_neg (by omega), if_pos (by omega)]
          · rw [pk_un e1]
            by_cases e2 : j = 2 * k
            · rw [e2, pk_us]; unfold gry; rw [if_neg (by omega), if_neg (by omega), show 2 * k / 2 = k by omega, ← nI_add]; rfl
            · rw [pk_un e2]; exact hj j (by omega)
        | succ m2 ih2 =>
          intro t ht
          have hg := gr_t ⟨k, by omega⟩ ⟨t, by omega⟩ h1
          dsimp only at hg
          refine M.blk (is := [(.iload_n 1, 1, 0, 0), (.iload_n 2, 2, 0, 0), (.iconst 1, 0, 0, 1), (.iadd, 0, 0, 0), (.ishr, 0, 0, 0), (.iload_n 2, 2, 0, 0), (.iconst 1, 0, 0, 1), (.iadd, 0, 0, 0), (.ishl, 0, 0, 0), (.iload_n 1, 1, 0, 0)]) (pc1 := 42) (lo1 := [(0, .ref 0), (1, .int (nI k)), (2, .int (nI t))]) (st1 := [.int (nI k), .int (((nI k) >>> (((nI t) + 1) &&& 31)) <<< (((nI t) + 1) &&& 31))]) (w1 := (WM MD (upd MS 2 64) Mh v)) (by decide +kernel) rfl ?_
          refine M.icmp_ne (off := 9) (tgt := 51) (nx := 45) (by decide +kernel) (fun z42 => by exfalso; rcases hg with hg | hg; exact z42 (hg.mpr (by omega)); omega) (fun z42 => ?_)
          refine M.blk (is := [(.iinc 2 1, 2, 0, 1), (.goto (-16), 32, 0, 0)]) (pc1 := 32) (lo1 := [(2, .int ((nI t) + 1)), (0, .ref 0), (1, .int (nI k))]) (st1 := []) (w1 := (WM MD (upd MS 2 64) Mh v)) (by decide +kernel) rfl ?_
          refine M.lsub [1, 2, 0] (lo1 := [(0, .ref 0), (1, .int (nI k)), (2, .int ((nI t) + 1))]) rfl ?_
          rw [nI_1]
          exact ih2 (t + 1) (by omega)
      refine M.blk (is := [(.iload_n 1, 1, 0, 0), (.bipush 32, 0, 0, 32)]) (pc1 := 27) (lo1 := [(0, .ref 0), (1, .int (nI k))]) (st1 := [.int 32, .int (nI k)]) (w1 := (WM MD (upd MS 2 64) Mh v)) (by decide +kernel) rfl ?_
      refine M.icmp_ge (off := 54) (tgt := 81) (nx := 30) (by decide +kernel) (fun z27 => by exfalso; exact nI_ge (a := k) (b := 32) (by omega) (by decide) z27) (fun z27 => ?_)
      refine M.blk (is := [(.iconst 0, 0, 0, 0), (.istore_n 2, 2, 0, 0)]) (pc1 := 32) (lo1 := [(2, .int 0), (0, .ref 0), (1, .int (nI k))]) (st1 := []) (w1 := (WM MD (upd MS 2 64) Mh v)) (by decide +kernel) rfl ?_
      refine M.lsub [1, 2, 0] (lo1 := [(0, .ref 0), (1, .int (nI k)), (2, .int 0)]) rfl ?_
      exact lt (ntz k) 0 (by omega)
  show g 0 0 0 [(0, .ref 0)] [] (WM MA MS Mh v)
  refine M.blk (is := [(.aload_n 0, 0, 0, 0), (.bipush 64, 0, 0, 64), (.putfield 51, 4, 2, 0), (.aload_n 0, 0, 0, 0), (.getfield 13, 4, 3, 0), (.iconst 0, 0, 0, 0), (.bipush 122, 0, 0, 122)]) (pc1 := 13) (lo1 := [(0, .ref 0)]) (st1 := [.int 122, .int 0, .ref 2]) (w1 := (WM MA (upd MS 2 64) Mh v)) (by decide +kernel) rfl ?_
  refine M.ast (n := 64) (f := MA 3) (j := 0) (nx := 14) (by decide +kernel) rfl rfl (by decide) (by decide) ?_
  show g 0 0 14 [(0, .ref 0)] [] (WM (va_up MA 3 (upd (MA 3) 0 122)) (upd MS 2 64) Mh v)
  refine M.blk (is := [(.aload_n 0, 0, 0, 0), (.getfield 13, 4, 3, 0), (.iconst 1, 0, 0, 1), (.bipush 114, 0, 0, 114)]) (pc1 := 21) (lo1 := [(0, .ref 0)]) (st1 := [.int 114, .int 1, .ref 2]) (w1 := (WM (va_up MA 3 (upd (MA 3) 0 122)) (upd MS 2 64) Mh v)) (by decide +kernel) rfl ?_
  refine M.ast (n := 64) (f := upd (MA 3) 0 122) (j := 1) (nx := 22) (by decide +kernel) rfl rfl (by decide) (by decide) ?_
  show g 0 0 22 [(0, .ref 0)] [] (WM (va_up MA 3 (upd (upd (MA 3) 0 122) 1 114)) (upd MS 2 64) Mh v)
  refine M.blk (is := [(.iconst 1, 0, 0, 1), (.istore_n 1, 1, 0, 0)]) (pc1 := 24) (lo1 := [(1, .int 1), (0, .ref 0)]) (st1 := []) (w1 := (WM (va_up MA 3 (upd (upd (MA 3) 0 122) 1 114)) (upd MS 2 64) Mh v)) (by decide +kernel) rfl ?_
  refine M.lsub [1, 0] (lo1 := [(0, .ref 0), (1, .int 1)]) rfl ?_
  exact lp 31 1 _ (by omega) (by omega) (fun i h => va_upN _ _ h) (fun j hj => by rcases (show j = 0 ∨ j = 1 by omega) with rfl | rfl <;> rfl)
def MSok (r c f h t : Nat) (MS : Nat → Int32) : Prop := MS 4 = nI r ∧ MS 5 = nI c ∧ MS 6 = nI f ∧ MS 7 = nI h ∧ MS 8 = nI t
theorem m_cells {r c : Nat} (h4 : MS 4 = nI r) (h5 : MS 5 = nI c) : CC 0 mX4_cells 0 0 [.ref 0] (WM MA MS Mh v) (Rt (nI (r * c)) (WM MA MS Mh v)) := by
  refine CC.of okX4_cells.1 (Nat.le_of_ble_eq_true rfl) (fun g M => ?_)
  show g 0 0 0 [(0, .ref 0)] [] (WM MA MS Mh v)
  refine M.blk (is := [(.aload_n 0, 0, 0, 0), (.getfield 16, 4, 4, 0), (.aload_n 0, 0, 0, 0), (.getfield 20, 4, 5, 0), (.imul, 0, 0, 0)]) (pc1 := 9) (lo1 := [(0, .ref 0)]) (st1 := [.int ((MS 4) * (MS 5))]) (w1 := (WM MA MS Mh v)) (by decide +kernel) rfl ?_
  exact M.reti (nx := 10) (by decide +kernel) ⟨by rw [h4, h5, pk_mul], rfl⟩
theorem wf_01 (x a b : Int32) : withF x a b = 0 ∨ withF x a b = 1 := by
  by_cases h : withF x a b = 0
  · exact Or.inl h
  · exact Or.inr (wf_1 h)
theorem m_isCell {r c f h t : Nat} (hgeo : GeoOk r c f h t) (hms : MSok r c f h t MS) (x : Int32) : CC 1 mX4_isCell 0 0 [.ref 0, .int x] (WM MA MS Mh v) (Rt (withF x 0 (nI (r * c) - 1)) (WM MA MS Mh v)) := by
  refine CC.of okX4_isCell.1 (Nat.le_of_ble_eq_true rfl) (fun g M => ?_)
  show g 0 0 0 [(0, .ref 0), (1, .int x)] [] (WM MA MS Mh v)
  refine M.blk (is := [(.iload_n 1, 1, 0, 0), (.iconst 0, 0, 0, 0), (.aload_n 0, 0, 0, 0)]) (pc1 := 3) (lo1 := [(0, .ref 0), (1, .int x)]) (st1 := [.ref 0, .int 0, .int x]) (w1 := (WM MA MS Mh v)) (by decide +kernel) rfl ?_
  refine M.callVi (as := []) (st := [.int 0, .int x]) (nx := 6) okX4_cells lkX4_57 (m_cells hms.1 hms.2.1) (by decide +kernel) (by decide) rfl (Nat.le_of_ble_eq_true rfl) rfl (by decide) ?_
  refine M.blk (is := [(.iconst 1, 0, 0, 1), (.isub, 0, 0, 0)]) (pc1 := 8) (lo1 := [(0, .ref 0), (1, .int x)]) (st1 := [.int ((nI (r * c)) - 1), .int 0, .int x]) (w1 := (WM MA MS Mh v)) (by decide +kernel) rfl ?_
  refine M.callSi (as := [.int x, .int 0, .int ((nI (r * c)) - 1)]) (st := []) (nx := 11) okX4_within lkX4_36 (s_within (WM MA MS Mh v) x 0 ((nI (r * c)) - 1)) (by decide +kernel) (by decide) rfl (Nat.le_of_ble_eq_true rfl) ?_
  exact M.retz (nx := 12) (by decide +kernel) (wf_01 _ _ _) ⟨rfl, rfl⟩
theorem s_common (w0 : Wd) {a b : Nat} (ha : a < 2147483648) (hb : b < 2147483648) : CC 0 mX4_common 0 0 [.int (nI a), .int (nI b)] w0 (Rt (nI (Nat.gcd a b)) w0) := by
  refine CC.of okX4_common.1 (Nat.le_of_ble_eq_true rfl) (fun g M => ?_)
  have lp : ∀ N x y : Nat, y ≤ N → x < 2147483648 → y < 2147483648 → Nat.gcd a b = Nat.gcd x y → g 0 0 4 [(2, .int (nI x)), (3, .int (nI y))] [] w0 := by
    intro N
    induction N with
    | zero =>
      intro x y hy hx _ he
      have ey : y = 0 := by omega
      subst ey
      refine M.blk (is := [(.iload_n 3, 3, 0, 0)]) (pc1 := 5) (lo1 := [(2, .int (nI x)), (3, .int (nI 0))]) (st1 := [.int (nI 0)]) (w1 := w0) (by decide +kernel) rfl ?_
      refine M.if_eq (off := 16) (tgt := 21) (nx := 8) (by decide +kernel) (fun z5 => ?_) (fun z5 => by exfalso; exact z5 rfl)
      refine M.blk (is := [(.iload_n 2, 2, 0, 0)]) (pc1 := 22) (lo1 := [(2, .int (nI x)), (3, .int (nI 0))]) (st1 := [.int (nI x)]) (w1 := w0) (by decide +kernel) rfl ?_
      exact M.reti (nx := 23) (by decide +kernel) ⟨by rw [he, Nat.gcd_zero_right], rfl⟩
    | succ N ih =>
      intro x y hy hx hy2 he
      rcases Nat.eq_zero_or_pos y with e0 | e0
      · subst e0
        refine M.blk (is := [(.iload_n 3, 3, 0, 0)]) (pc1 := 5) (lo1 := [(2, .int (nI x)), (3, .int (nI 0))]) (st1 := [.int (nI 0)]) (w1 := w0) (by decide +kernel) rfl ?_
        refine M.if_eq (off := 16) (tgt := 21) (nx := 8) (by decide +kernel) (fun z5 => ?_) (fun z5 => by exfalso; exact z5 rfl)
        refine M.blk (is := [(.iload_n 2, 2, 0, 0)]) (pc1 := 22) (lo1 := [(2, .int (nI x)), (3, .int (nI 0))]) (st1 := [.int (nI x)]) (w1 := w0) (by decide +kernel) rfl ?_
        exact M.reti (nx := 23) (by decide +kernel) ⟨by rw [he, Nat.gcd_zero_right], rfl⟩
      · have hl := Nat.mod_lt x e0
        refine M.blk (is := [(.iload_n 3, 3, 0, 0)]) (pc1 := 5) (lo1 := [(2, .int (nI x)), (3, .int (nI y))]) (st1 := [.int (nI y)]) (w1 := w0) (by decide +kernel) rfl ?_
        refine M.if_eq (off := 16) (tgt := 21) (nx := 8) (by decide +kernel) (fun z5 => by exfalso; exact nI_ne0 e0 hy2 z5) (fun z5 => ?_)
        refine M.blk (is := [(.iload_n 2, 2, 0, 0), (.iload_n 3, 3, 0, 0)]) (pc1 := 10) (lo1 := [(2, .int (nI x)), (3, .int (nI y))]) (st1 := [.int (nI y), .int (nI x)]) (w1 := w0) (by decide +kernel) rfl ?_
        refine M.irm (nx := 11) (by decide +kernel) (nI_ne0 e0 hy2) ?_
        refine M.blk (is := [(.istore 4, 4, 0, 0), (.iload_n 3, 3, 0, 0), (.istore_n 2, 2, 0, 0), (.iload 4, 4, 0, 0), (.istore_n 3, 3, 0, 0), (.goto (-14), 4, 0, 0)]) (pc1 := 4) (lo1 := [(3, .int (jrem (nI x) (nI y))), (2, .int (nI y)), (4, .int (jrem (nI x) (nI y)))]) (st1 := []) (w1 := w0) (by decide +kernel) rfl ?_
        refine M.lsub [1, 0] (lo1 := [(2, .int (nI y)), (3, .int (jrem (nI x) (nI y)))]) rfl ?_
        rw [hf_rem hx e0 hy2]
        exact ih y (x % y) (by omega) hy2 (by omega) (by rw [he, Nat.gcd_comm, Nat.gcd_rec, Nat.gcd_comm])
  show g 0 0 0 [(0, .int (nI a)), (1, .int (nI b))] [] w0
  refine M.blk (is := [(.iload_n 0, 0, 0, 0), (.istore_n 2, 2, 0, 0), (.iload_n 1, 1, 0, 0), (.istore_n 3, 3, 0, 0)]) (pc1 := 4) (lo1 := [(3, .int (nI b)), (2, .int (nI a)), (0, .int (nI a)), (1, .int (nI b))]) (st1 := []) (w1 := w0) (by decide +kernel) rfl ?_
  refine M.lsub [1, 0] (lo1 := [(2, .int (nI a)), (3, .int (nI b))]) rfl ?_
  exact lp b a b (Nat.le_refl _) ha hb rfl
end MONE
