section MIX
variable {c0 c1 c2 c3 c4 : Cl} {PA : Nat → Nat → Int32} {PS : Nat → Int32} {rest u : List Cl}
theorem mix_next {f h n a : Nat} {b x : Int32} (hx : x = nI n) (hf : f < n) (hn : n ≤ 25) (hb : b = if nI ((f * a + h) % n) + nI f < x then nI ((f * a + h) % n) + nI f else nI ((f * a + h) % n) + nI f - x) : b = nI ((f * (a + 1) + h) % n) := by
  have h1 : f * (a + 1) + h = (f * a + h) + f := by rw [Nat.mul_add]; omega
  have h2 : (f * a + h) % n < n := Nat.mod_lt _ (by omega)
  rw [h1, Nat.add_mod, Nat.mod_eq_of_lt hf]
  generalize (f * a + h) % n = k at *
  rw [hx, nI_add] at hb
  by_cases hc : k + f < n
  · rw [if_pos (nI_lt hc (by omega))] at hb
    rw [hb, Nat.mod_eq_of_lt hc]
  · rw [if_neg (nI_nlt (by omega) (by omega)), pk_sub (by omega)] at hb
    rw [hb, Nat.mod_eq_sub_mod (by omega), Nat.mod_eq_of_lt (by omega)]
theorem mix_step {f h n a : Nat} {PB PC : Nat → Nat → Int32} (hg : Nat.gcd n f = 1) (ha : a < n) (hv : MixInv n f h a PB) (e5 : PC 5 = upd (PB 5) a (nI ((f * a + h) % n))) (e6 : PC 6 = upd (PB 6) ((f * a + h) % n) (nI a)) : MixInv n f h (a + 1) PC := by
  intro k hk
  by_cases hka : k = a
  · subst hka
    exact ⟨by rw [e5, pk_us], by rw [e6, pk_us]⟩
  · obtain ⟨h1, h2⟩ := hv k (by omega)
    refine ⟨by rw [e5, pk_un hka, h1], ?_⟩
    rw [e6, pk_un, h2]
    intro e
    exact hka (mod_inj hg (by omega) ha e)
theorem fa_lt1 {x : Int32} (h : x < 0) : x < 3 := by
  rw [Int32.lt_iff_toInt_lt] at h ⊢
  have h1 : (3 : Int32).toInt = 3 := by decide
  have h2 : (0 : Int32).toInt = 0 := by decide
  omega
theorem fa_gt1 {x : Int32} (h : nI 6 ≤ x) : 5 < x := by
  rw [Int32.le_iff_toInt_le] at h
  rw [Int32.lt_iff_toInt_lt]
  have h1 : (5 : Int32).toInt = 5 := by decide
  have h2 : (nI 6).toInt = 6 := by decide
  omega
theorem fa_lt0 {x : Int32} (h : x < 0) : x < 1 := by
  rw [Int32.lt_iff_toInt_lt] at h ⊢
  have h1 : (1 : Int32).toInt = 1 := by decide
  have h2 : (0 : Int32).toInt = 0 := by decide
  omega
theorem i32_nlt {x y : Int32} (h : x < y) (h2 : y ≤ x) : False := by
  rw [Int32.lt_iff_toInt_lt] at h
  rw [Int32.le_iff_toInt_le] at h2
  omega
theorem sideF_ok {x : Int32} (h : ¬ sideF x = 0) : ∃ r : Nat, (3 ≤ r ∧ r ≤ 5) ∧ x = nI r := by
  unfold sideF at h
  split at h
  · exact absurd rfl h
  · rename_i h1
    split at h
    · exact absurd rfl h
    · rename_i h2
      rcases pk_ix x (n := 6) (by decide) with h3 | h3 | ⟨j, hj, rfl⟩
      · exact absurd (fa_lt1 h3) h1
      · exact absurd (fa_gt1 h3) h2
      · have h4 : ¬ j < 3 := fun h => h1 (nI_lt (b := 3) h (by decide))
        exact ⟨j, by omega, rfl⟩
theorem sideF_no {x : Int32} (h : sideF x = 0) : ∀ r : Nat, x = nI r → ¬ (3 ≤ r ∧ r ≤ 5) := by
  rintro r rfl ⟨h3, h5⟩
  rcases (show r = 3 ∨ r = 4 ∨ r = 5 by omega) with rfl | rfl | rfl <;> exact absurd h (by decide)
theorem mix_f1 {f : Nat} (h : 1 = nI f) (h1 : f < 100) : f = 1 := nI_inj (by omega) (by decide) h.symm
theorem mix_f0 {f : Nat} (h : 0 = nI f) (h1 : f < 100) : f = 0 := nI_inj (by omega) (by decide) h.symm
theorem shl_row {r : Nat} (hr : r ≤ 5) {x z : Int32} (hx : x = nI r) : (z < 1 <<< (x &&& 31)) ↔ z < nI (2 ^ r) := by
  rw [hx, shl1 (by omega)]
theorem s_mix {r n : Nat} (h7 : PS 7 = nI r) (h9 : PS 9 = nI n) (hr : r ≤ 5) (hn : 1 ≤ n ∧ n ≤ 25) (x y z : Int32) : CC 2 mX1_mix 0 0 [.ref 105, .int x, .int y, .int z] (WP c0 c1 c2 c3 c4 PA PS rest u) (fun r0 w1 => (r0 = some (.int 0) ∧ w1 = (WP c0 c1 c2 c3 c4 PA PS rest u) ∧ ¬ mixP r n x y z) ∨ (r0 = some (.int 1) ∧ ∃ f h t : Nat, (x = nI f ∧ y = nI h ∧ z = nI t ∧ 1 ≤ f ∧ f < n ∧ Nat.gcd n f = 1 ∧ h < n ∧ t < 2 ^ r) ∧ ∃ PB, w1 = WP c0 c1 c2 c3 c4 PB (upd (upd (upd PS 10 x) 11 y) 12 z) rest u ∧ (∀ k, k < 5 → PB k = PA k) ∧ MixInv n f h n PB)) := by
  refine CC.of okX1_mix.1 (Nat.le_of_ble_eq_true rfl) (fun g M => ?_)
  have h2r : 2 ^ r ≤ 32 := Nat.pow_le_pow_right (n := 2) (by decide) hr
  show g 0 0 0 [(0, .ref 105), (1, .int x), (2, .int y), (3, .int z)] [] (WP c0 c1 c2 c3 c4 PA PS rest u)
  refine M.blk (is := [(.iload_n 1, 1, 0, 0), (.iconst 1, 0, 0, 1)]) (pc1 := 2) (lo1 := [(0, .ref 105), (1, .int x), (2, .int y), (3, .int z)]) (st1 := [.int 1, .int x]) (w1 := (WP c0 c1 c2 c3 c4 PA PS rest u)) (by decide +kernel) rfl ?_
  refine M.icmp_lt (off := 23) (tgt := 25) (nx := 5) (by decide +kernel) (fun z2 => ?_) (fun z2 => ?_)
  · refine M.blk (is := [(.iconst 0, 0, 0, 0)]) (pc1 := 26) (lo1 := [(0, .ref 105), (1, .int x), (2, .int y), (3, .int z)]) (st1 := [.int 0]) (w1 := (WP c0 c1 c2 c3 c4 PA PS rest u)) (by decide +kernel) rfl ?_
    exact M.retz (nx := 27) (by decide +kernel) (by decide) (Or.inl ⟨rfl, rfl, (fun ⟨f, h, t, e1, e2, e3, a1, a2, a3, a4, a5⟩ => by rw [e1] at z2; exact nI_nlt (b := 1) a1 (by omega) z2)⟩)
  · refine M.blk (is := [(.iload_n 1, 1, 0, 0), (.aload_n 0, 0, 0, 0), (.getfield 48, 1, 9, 0)]) (pc1 := 10) (lo1 := [(0, .ref 105), (1, .int x), (2, .int y), (3, .int z)]) (st1 := [.int (PS 9), .int x]) (w1 := (WP c0 c1 c2 c3 c4 PA PS rest u)) (by decide +kernel) rfl ?_
    refine M.icmp_ge (off := 15) (tgt := 25) (nx := 13) (by decide +kernel) (fun z10 => ?_) (fun z10 => ?_)
    · refine M.blk (is := [(.iconst 0, 0, 0, 0)]) (pc1 := 26) (lo1 := [(0, .ref 105), (1, .int x), (2, .int y), (3, .int z)]) (st1 := [.int 0]) (w1 := (WP c0 c1 c2 c3 c4 PA PS rest u)) (by decide +kernel) rfl ?_
      exact M.retz (nx := 27) (by decide +kernel) (by decide) (Or.inl ⟨rfl, rfl, (fun ⟨f, h, t, e1, e2, e3, a1, a2, a3, a4, a5⟩ => by rw [e1, h9] at z10; exact nI_ge a2 (by omega) z10)⟩)
    · obtain ⟨f, hf, rfl⟩ : ∃ f : Nat, f < n ∧ x = nI f := ⟨_, (idx_of (n := n) (fun h => z2 (fa_lt0 h)) (by rw [← h9]; exact z10) (by omega)).2, (idx_of (n := n) (fun h => z2 (fa_lt0 h)) (by rw [← h9]; exact z10) (by omega)).1⟩
      have hf1 : 1 ≤ f := by
        rcases Nat.eq_zero_or_pos f with h0 | h0
        · subst h0; exact absurd (show nI 0 < 1 by decide) z2
        · exact h0
      refine M.blk (is := [(.aload_n 0, 0, 0, 0), (.getfield 48, 1, 9, 0), (.iload_n 1, 1, 0, 0)]) (pc1 := 18) (lo1 := [(0, .ref 105), (1, .int (nI f)), (2, .int y), (3, .int z)]) (st1 := [.int (nI f), .int (PS 9)]) (w1 := (WP c0 c1 c2 c3 c4 PA PS rest u)) (by decide +kernel) rfl ?_
      refine M.callSi (as := [.int (PS 9), .int (nI f)]) (st := []) (nx := 21) okX3_commonDivisor lkX1_66 (h9 ▸ s_commonDivisor (WP c0 c1 c2 c3 c4 PA PS rest u) (a := n) (b := f) (by omega) (by omega)) (by decide +kernel) (by decide) rfl (Nat.le_of_ble_eq_true rfl) ?_
      refine M.blk (is := [(.iconst 1, 0, 0, 1)]) (pc1 := 22) (lo1 := [(0, .ref 105), (1, .int (nI f)), (2, .int y), (3, .int z)]) (st1 := [.int 1, .int (nI (Nat.gcd n f))]) (w1 := (WP c0 c1 c2 c3 c4 PA PS rest u)) (by decide +kernel) rfl ?_
      refine M.icmp_eq (off := 5) (tgt := 27) (nx := 25) (by decide +kernel) (fun z22 => ?_) (fun z22 => ?_)
      · refine M.blk (is := [(.iload_n 2, 2, 0, 0)]) (pc1 := 28) (lo1 := [(0, .ref 105), (1, .int (nI f)), (2, .int y), (3, .int z)]) (st1 := [.int y]) (w1 := (WP c0 c1 c2 c3 c4 PA PS rest u)) (by decide +kernel) rfl ?_
        refine M.if_lt (off := 25) (tgt := 53) (nx := 31) (by decide +kernel) (fun z28 => ?_) (fun z28 => ?_)
        · refine M.blk (is := [(.iconst 0, 0, 0, 0)]) (pc1 := 54) (lo1 := [(0, .ref 105), (1, .int (nI f)), (2, .int y), (3, .int z)]) (st1 := [.int 0]) (w1 := (WP c0 c1 c2 c3 c4 PA PS rest u)) (by decide +kernel) rfl ?_
          exact M.retz (nx := 55) (by decide +kernel) (by decide) (Or.inl ⟨rfl, rfl, (fun ⟨f1, h, t, e1, e2, e3, a1, a2, a3, a4, a5⟩ => by rw [e2] at z28; exact nI_pos (by omega) z28)⟩)
        · refine M.blk (is := [(.iload_n 2, 2, 0, 0), (.aload_n 0, 0, 0, 0), (.getfield 48, 1, 9, 0)]) (pc1 := 36) (lo1 := [(0, .ref 105), (1, .int (nI f)), (2, .int y), (3, .int z)]) (st1 := [.int (PS 9), .int y]) (w1 := (WP c0 c1 c2 c3 c4 PA PS rest u)) (by decide +kernel) rfl ?_
          refine M.icmp_ge (off := 17) (tgt := 53) (nx := 39) (by decide +kernel) (fun z36 => ?_) (fun z36 => ?_)
          · refine M.blk (is := [(.iconst 0, 0, 0, 0)]) (pc1 := 54) (lo1 := [(0, .ref 105), (1, .int (nI f)), (2, .int y), (3, .int z)]) (st1 := [.int 0]) (w1 := (WP c0 c1 c2 c3 c4 PA PS rest u)) (by decide +kernel) rfl ?_
            exact M.retz (nx := 55) (by decide +kernel) (by decide) (Or.inl ⟨rfl, rfl, (fun ⟨f1, h, t, e1, e2, e3, a1, a2, a3, a4, a5⟩ => by rw [e2, h9] at z36; exact nI_ge a4 (by omega) z36)⟩)
          · refine M.blk (is := [(.iload_n 3, 3, 0, 0)]) (pc1 := 40) (lo1 := [(0, .ref 105), (1, .int (nI f)), (2, .int y), (3, .int z)]) (st1 := [.int z]) (w1 := (WP c0 c1 c2 c3 c4 PA PS rest u)) (by decide +kernel) rfl ?_
            refine M.if_lt (off := 13) (tgt := 53) (nx := 43) (by decide +kernel) (fun z40 => ?_) (fun z40 => ?_)
            · refine M.blk (is := [(.iconst 0, 0, 0, 0)]) (pc1 := 54) (lo1 := [(0, .ref 105), (1, .int (nI f)), (2, .int y), (3, .int z)]) (st1 := [.int 0]) (w1 := (WP c0 c1 c2 c3 c4 PA PS rest u)) (by decide +kernel) rfl ?_
              exact M.retz (nx := 55) (by decide +kernel) (by decide) (Or.inl ⟨rfl, rfl, (fun ⟨f1, h, t, e1, e2, e3, a1, a2, a3, a4, a5⟩ => by rw [e3] at z40; exact nI_pos (by omega) z40)⟩)
            · refine M.blk (is := [(.iload_n 3, 3, 0, 0), (.iconst 1, 0, 0, 1), (.aload_n 0, 0, 0, 0), (.getfield 41, 1, 7, 0), (.ishl, 0, 0, 0)]) (pc1 := 50) (lo1 := [(0, .ref 105), (1, .int (nI f)), (2, .int y), (3, .int z)]) (st1 := [.int ((1 : Int32) <<< ((PS 7) &&& 31)), .int z]) (w1 := (WP c0 c1 c2 c3 c4 PA PS rest u)) (by decide +kernel) rfl ?_
              refine M.icmp_lt (off := 5) (tgt := 55) (nx := 53) (by decide +kernel) (fun z50 => ?_) (fun z50 => ?_)
              · obtain ⟨h, hh, rfl⟩ : ∃ h : Nat, h < n ∧ y = nI h := ⟨_, (idx_of (n := n) z28 (by rw [← h9]; exact z36) (by omega)).2, (idx_of (n := n) z28 (by rw [← h9]; exact z36) (by omega)).1⟩
                obtain ⟨t, ht, rfl⟩ : ∃ t : Nat, t < 2 ^ r ∧ z = nI t := by
                  rw [shl_row hr h7] at z50
                  have z51 : ¬ nI (2 ^ r) ≤ z := fun h => i32_nlt z50 h
                  exact ⟨_, (idx_of (n := 2 ^ r) z40 z51 (by omega)).2, (idx_of (n := 2 ^ r) z40 z51 (by omega)).1⟩
                have hg : Nat.gcd n f = 1 := nI_inj (Nat.lt_of_le_of_lt (Nat.gcd_le_left f hn.1) (by omega)) (by decide) z22
                have lp : ∀ m a PB, a + m = n → MixInv n f h a PB → (∀ k, k < 5 → PB k = PA k) → g 0 0 76 [(0, .ref 105), (1, .int (nI f)), (4, .int (nI ((f * a + h) % n))), (5, .int (nI a))] [] (WP c0 c1 c2 c3 c4 PB (upd (upd (upd PS 10 (nI f)) 11 (nI h)) 12 (nI t)) rest u) := by
                  intro m
                  induction m with
                  | zero =>
                    intro a PB ham hv hk
                    have ea : n = a := by omega
                    subst ea
                    refine M.blk (is := [(.iload 5, 5, 0, 0), (.aload_n 0, 0, 0, 0), (.getfield 48, 1, 9, 0)]) (pc1 := 82) (lo1 := [(0, .ref 105), (1, .int (nI f)), (4, .int (nI ((f * n + h) % n))), (5, .int (nI n))]) (st1 := [.int (PS 9), .int (nI n)]) (w1 := (WP c0 c1 c2 c3 c4 PB (upd (upd (upd PS 10 (nI f)) 11 (nI h)) 12 (nI t)) rest u)) (by decide +kernel) rfl ?_
                    refine M.icmp_ge (off := 46) (tgt := 128) (nx := 85) (by decide +kernel) (fun z82 => ?_) (fun z82 => by exfalso; exact z82 (by rw [h9]; exact nI_le (Nat.le_refl _) (by omega)))
                    refine M.blk (is := [(.iconst 1, 0, 0, 1)]) (pc1 := 129) (lo1 := [(0, .ref 105), (1, .int (nI f)), (4, .int (nI ((f * n + h) % n))), (5, .int (nI n))]) (st1 := [.int 1]) (w1 := (WP c0 c1 c2 c3 c4 PB (upd (upd (upd PS 10 (nI f)) 11 (nI h)) 12 (nI t)) rest u)) (by decide +kernel) rfl ?_
                    exact M.retz (nx := 130) (by decide +kernel) (by decide) (Or.inr ⟨rfl, f, h, t, ⟨rfl, rfl, rfl, hf1, hf, hg, hh, ht⟩, PB, rfl, hk, hv⟩)
                  | succ m ih =>
                    intro a PB ham hv hk
                    refine M.blk (is := [(.iload 5, 5, 0, 0), (.aload_n 0, 0, 0, 0), (.getfield 48, 1, 9, 0)]) (pc1 := 82) (lo1 := [(0, .ref 105), (1, .int (nI f)), (4, .int (nI ((f * a + h) % n))), (5, .int (nI a))]) (st1 := [.int (PS 9), .int (nI a)]) (w1 := (WP c0 c1 c2 c3 c4 PB (upd (upd (upd PS 10 (nI f)) 11 (nI h)) 12 (nI t)) rest u)) (by decide +kernel) rfl ?_
                    refine M.icmp_ge (off := 46) (tgt := 128) (nx := 85) (by decide +kernel) (fun z82 => by exfalso; rw [h9] at z82; exact nI_ge (show a < n by omega) (by omega) z82) (fun z82 => ?_)
                    refine M.blk (is := [(.aload_n 0, 0, 0, 0), (.iload 5, 5, 0, 0), (.iload 4, 4, 0, 0)]) (pc1 := 90) (lo1 := [(0, .ref 105), (1, .int (nI f)), (4, .int (nI ((f * a + h) % n))), (5, .int (nI a))]) (st1 := [.int (nI ((f * a + h) % n)), .int (nI a), .ref 105]) (w1 := (WP c0 c1 c2 c3 c4 PB (upd (upd (upd PS 10 (nI f)) 11 (nI h)) 12 (nI t)) rest u)) (by decide +kernel) rfl ?_
                    refine M.callVv (as := [.int (nI a), .int (nI ((f * a + h) % n))]) (st := []) (nx := 93) okX1_setAddress lkX1_79 (s_setAddress (n := n) h9 hn.2 (by omega) (Nat.mod_lt _ (by omega))) (by decide +kernel) (by decide) rfl (Nat.le_of_ble_eq_true rfl) rfl (by decide) ?_
                    show g 0 0 93 [(0, .ref 105), (1, .int (nI f)), (4, .int (nI ((f * a + h) % n))), (5, .int (nI a))] [] (WP c0 c1 c2 c3 c4 (va_up (va_up PB 5 (upd (PB 5) a (nI ((f * a + h) % n)))) 6 (upd (PB 6) ((f * a + h) % n) (nI a))) (upd (upd (upd PS 10 (nI f)) 11 (nI h)) 12 (nI t)) rest u)
                    refine M.blk (is := [(.iload 4, 4, 0, 0), (.iload_n 1, 1, 0, 0), (.iadd, 0, 0, 0), (.istore 4, 4, 0, 0), (.iload 4, 4, 0, 0), (.aload_n 0, 0, 0, 0), (.getfield 48, 1, 9, 0)]) (pc1 := 105) (lo1 := [(4, .int ((nI ((f * a + h) % n)) + (nI f))), (0, .ref 105), (1, .int (nI f)), (5, .int (nI a))]) (st1 := [.int (PS 9), .int ((nI ((f * a + h) % n)) + (nI f))]) (w1 := (WP c0 c1 c2 c3 c4 (va_up (va_up PB 5 (upd (PB 5) a (nI ((f * a + h) % n)))) 6 (upd (PB 6) ((f * a + h) % n) (nI a))) (upd (upd (upd PS 10 (nI f)) 11 (nI h)) 12 (nI t)) rest u)) (by decide +kernel) rfl ?_
                    have j105 : ∀ b105 : Int32, b105 = (if (nI ((f * a + h) % n)) + (nI f) < PS 9 then ((nI ((f * a + h) % n)) + (nI f) : Int32) else ((nI ((f * a + h) % n)) + (nI f)) - (PS 9)) → g 0 0 120 [(4, .int ((nI ((f * a + h) % n)) + (nI f))), (0, .ref 105), (1, .int (nI f)), (5, .int (nI a))] [.int b105] (WP c0 c1 c2 c3 c4 (va_up (va_up PB 5 (upd (PB 5) a (nI ((f * a + h) % n)))) 6 (upd (PB 6) ((f * a + h) % n) (nI a))) (upd (upd (upd PS 10 (nI f)) 11 (nI h)) 12 (nI t)) rest u) := by
                      intro b105 hb105
                      refine M.blk (is := [(.istore 4, 4, 0, 0), (.iinc 5 1, 5, 0, 1), (.goto (-49), 76, 0, 0)]) (pc1 := 76) (lo1 := [(5, .int ((nI a) + 1)), (4, .int b105), (0, .ref 105), (1, .int (nI f))]) (st1 := []) (w1 := (WP c0 c1 c2 c3 c4 (va_up (va_up PB 5 (upd (PB 5) a (nI ((f * a + h) % n)))) 6 (upd (PB 6) ((f * a + h) % n) (nI a))) (upd (upd (upd PS 10 (nI f)) 11 (nI h)) 12 (nI t)) rest u)) (by decide +kernel) rfl ?_
                      refine M.lsub [2, 3, 1, 0] (lo1 := [(0, .ref 105), (1, .int (nI f)), (4, .int b105), (5, .int ((nI a) + 1))]) rfl ?_
                      rw [mix_next h9 hf hn.2 hb105, nI_1]
                      exact ih (a + 1) _ (by omega) (mix_step hg (by omega) hv rfl rfl) (fun k hk1 => (va_upN _ _ (by omega)).trans ((va_upN _ _ (by omega)).trans (hk k hk1)))
                    refine M.icmp_lt (off := 13) (tgt := 118) (nx := 108) (by decide +kernel) (fun z105 => ?_) (fun z105 => ?_)
                    · refine M.blk (is := [(.iload 4, 4, 0, 0)]) (pc1 := 120) (lo1 := [(4, .int ((nI ((f * a + h) % n)) + (nI f))), (0, .ref 105), (1, .int (nI f)), (5, .int (nI a))]) (st1 := [.int ((nI ((f * a + h) % n)) + (nI f))]) (w1 := (WP c0 c1 c2 c3 c4 (va_up (va_up PB 5 (upd (PB 5) a (nI ((f * a + h) % n)))) 6 (upd (PB 6) ((f * a + h) % n) (nI a))) (upd (upd (upd PS 10 (nI f)) 11 (nI h)) 12 (nI t)) rest u)) (by decide +kernel) rfl ?_
                      exact j105 _ (if_pos z105).symm
                    · refine M.blk (is := [(.iload 4, 4, 0, 0), (.aload_n 0, 0, 0, 0), (.getfield 48, 1, 9, 0), (.isub, 0, 0, 0), (.goto 5, 120, 0, 0)]) (pc1 := 120) (lo1 := [(4, .int ((nI ((f * a + h) % n)) + (nI f))), (0, .ref 105), (1, .int (nI f)), (5, .int (nI a))]) (st1 := [.int (((nI ((f * a + h) % n)) + (nI f)) - (PS 9))]) (w1 := (WP c0 c1 c2 c3 c4 (va_up (va_up PB 5 (upd (PB 5) a (nI ((f * a + h) % n)))) 6 (upd (PB 6) ((f * a + h) % n) (nI a))) (upd (upd (upd PS 10 (nI f)) 11 (nI h)) 12 (nI t)) rest u)) (by decide +kernel) rfl ?_
                      exact j105 _ (if_neg z105).symm
                refine M.blk (is := [(.aload_n 0, 0, 0, 0), (.iload_n 1, 1, 0, 0), (.putfield 70, 1, 10, 0), (.aload_n 0, 0, 0, 0), (.iload_n 2, 2, 0, 0), (.putfield 73, 1, 11, 0), (.aload_n 0, 0, 0, 0), (.iload_n 3, 3, 0, 0), (.putfield 76, 1, 12, 0), (.iload_n 2, 2, 0, 0), (.istore 4, 4, 0, 0), (.iconst 0, 0, 0, 0), (.istore 5, 5, 0, 0)]) (pc1 := 76) (lo1 := [(5, .int 0), (4, .int (nI h)), (0, .ref 105), (1, .int (nI f)), (2, .int (nI h)), (3, .int (nI t))]) (st1 := []) (w1 := (WP c0 c1 c2 c3 c4 PA (upd (upd (upd PS 10 (nI f)) 11 (nI h)) 12 (nI t)) rest u)) (by decide +kernel) rfl ?_
                refine M.lsub [2, 3, 1, 0] (lo1 := [(0, .ref 105), (1, .int (nI f)), (4, .int (nI h)), (5, .int 0)]) rfl ?_
                have e0 : nI h = nI ((f * 0 + h) % n) := by rw [Nat.mul_zero, Nat.zero_add, Nat.mod_eq_of_lt hh]
                rw [show g 0 0 76 [(0, .ref 105), (1, .int (nI f)), (4, .int (nI h)), (5, .int 0)] = g 0 0 76 [(0, .ref 105), (1, .int (nI f)), (4, .int (nI ((f * 0 + h) % n))), (5, .int (nI 0))] by rw [← e0]; rfl]
                exact lp n 0 PA (by omega) (fun k hk => absurd hk (Nat.not_lt_zero _)) (fun _ _ => rfl)
              · refine M.blk (is := [(.iconst 0, 0, 0, 0)]) (pc1 := 54) (lo1 := [(0, .ref 105), (1, .int (nI f)), (2, .int y), (3, .int z)]) (st1 := [.int 0]) (w1 := (WP c0 c1 c2 c3 c4 PA PS rest u)) (by decide +kernel) rfl ?_
                exact M.retz (nx := 55) (by decide +kernel) (by decide) (Or.inl ⟨rfl, rfl, (fun ⟨f1, h, t, e1, e2, e3, a1, a2, a3, a4, a5⟩ => by rw [e3, shl_row hr h7] at z50; exact z50 (nI_lt a5 (by omega)))⟩)
      · refine M.blk (is := [(.iconst 0, 0, 0, 0)]) (pc1 := 26) (lo1 := [(0, .ref 105), (1, .int (nI f)), (2, .int y), (3, .int z)]) (st1 := [.int 0]) (w1 := (WP c0 c1 c2 c3 c4 PA PS rest u)) (by decide +kernel) rfl ?_
        exact M.retz (nx := 27) (by decide +kernel) (by decide) (Or.inl ⟨rfl, rfl, (fun ⟨f1, h, t, e1, e2, e3, a1, a2, a3, a4, a5⟩ => z22 (by rw [nI_inj (by omega) (by omega) e1, a3]; rfl))⟩)
theorem s_lay (x y : Int32) : CC 3 mX1_lay 0 0 [.ref 105, .int x, .int y] (WP c0 c1 c2 c3 c4 PA PS rest u) (fun r0 w1 => (r0 = some (.int 0) ∧ w1 = (WP c0 c1 c2 c3 c4 PA PS rest u) ∧ ¬ layP x y) ∨ (r0 = some (.int 1) ∧ ∃ r c : Nat, x = nI r ∧ y = nI c ∧ (3 ≤ r ∧ r ≤ 5) ∧ (3 ≤ c ∧ c ≤ 5) ∧ ∃ PB PT, w1 = WP c0 c1 c2 c3 c4 PB PT rest u ∧ PlOk r c 1 0 0 PB PT)) := by
  refine CC.of okX1_lay.1 (Nat.le_of_ble_eq_true rfl) (fun g M => ?_)
  show g 0 0 0 [(0, .ref 105), (1, .int x), (2, .int y)] [] (WP c0 c1 c2 c3 c4 PA PS rest u)
  refine M.blk (is := [(.iload_n 1, 1, 0, 0)]) (pc1 := 1) (lo1 := [(0, .ref 105), (1, .int x), (2, .int y)]) (st1 := [.int x]) (w1 := (WP c0 c1 c2 c3 c4 PA PS rest u)) (by decide +kernel) rfl ?_
  refine M.callSi (as := [.int x]) (st := []) (nx := 4) okX1_isSide lkX1_37 (s_isSide (WP c0 c1 c2 c3 c4 PA PS rest u) x) (by decide +kernel) (by decide) rfl (Nat.le_of_ble_eq_true rfl) ?_
  refine M.if_eq (off := 10) (tgt := 14) (nx := 7) (by decide +kernel) (fun z4 => ?_) (fun z4 => ?_)
  · refine M.blk (is := [(.iconst 0, 0, 0, 0)]) (pc1 := 15) (lo1 := [(0, .ref 105), (1, .int x), (2, .int y)]) (st1 := [.int 0]) (w1 := (WP c0 c1 c2 c3 c4 PA PS rest u)) (by decide +kernel) rfl ?_
    exact M.retz (nx := 16) (by decide +kernel) (by decide) (Or.inl ⟨rfl, rfl, (fun ⟨r, c, e1, e2, a1, a2⟩ => sideF_no z4 r e1 a1)⟩)
  · refine M.blk (is := [(.iload_n 2, 2, 0, 0)]) (pc1 := 8) (lo1 := [(0, .ref 105), (1, .int x), (2, .int y)]) (st1 := [.int y]) (w1 := (WP c0 c1 c2 c3 c4 PA PS rest u)) (by decide +kernel) rfl ?_
    refine M.callSi (as := [.int y]) (st := []) (nx := 11) okX1_isSide lkX1_37 (s_isSide (WP c0 c1 c2 c3 c4 PA PS rest u) y) (by decide +kernel) (by decide) rfl (Nat.le_of_ble_eq_true rfl) ?_
    refine M.if_ne (off := 5) (tgt := 16) (nx := 14) (by decide +kernel) (fun z11 => ?_) (fun z11 => ?_)
    · obtain ⟨r, hr, rfl⟩ := sideF_ok z4
      obtain ⟨c, hc, rfl⟩ := sideF_ok z11
      have h25 : r * c ≤ 25 := Nat.mul_le_mul hr.2 hc.2
      have h9a : 9 ≤ r * c := Nat.mul_le_mul hr.1 hc.1
      refine M.blk (is := [(.aload_n 0, 0, 0, 0), (.iload_n 1, 1, 0, 0), (.putfield 41, 1, 7, 0), (.aload_n 0, 0, 0, 0), (.iload_n 2, 2, 0, 0), (.putfield 45, 1, 8, 0), (.aload_n 0, 0, 0, 0), (.iload_n 1, 1, 0, 0), (.iload_n 2, 2, 0, 0), (.imul, 0, 0, 0), (.putfield 48, 1, 9, 0)]) (pc1 := 33) (lo1 := [(0, .ref 105), (1, .int (nI r)), (2, .int (nI c))]) (st1 := []) (w1 := (WP c0 c1 c2 c3 c4 PA (upd (upd (upd PS 7 (nI r)) 8 (nI c)) 9 ((nI r) * (nI c))) rest u)) (by decide +kernel) rfl ?_
      rw [pk_mul]
      have lo2 : ∀ m i PB, i + m = r → LayInv r c (i * c) PB → g 0 0 55 [(0, .ref 105), (1, .int (nI r)), (2, .int (nI c)), (3, .int (nI i))] [] (WP c0 c1 c2 c3 c4 PB (upd (upd (upd PS 7 (nI r)) 8 (nI c)) 9 (nI (r * c))) rest u) := by
        intro m
        induction m with
        | zero =>
          intro i PB him hv
          have ei : r = i := by omega
          subst ei
          refine M.blk (is := [(.iload_n 3, 3, 0, 0), (.iload_n 1, 1, 0, 0)]) (pc1 := 57) (lo1 := [(0, .ref 105), (1, .int (nI r)), (2, .int (nI c)), (3, .int (nI r))]) (st1 := [.int (nI r), .int (nI r)]) (w1 := (WP c0 c1 c2 c3 c4 PB (upd (upd (upd PS 7 (nI r)) 8 (nI c)) 9 (nI (r * c))) rest u)) (by decide +kernel) rfl ?_
          refine M.icmp_ge (off := 31) (tgt := 88) (nx := 60) (by decide +kernel) (fun z57 => ?_) (fun z57 => by exfalso; exact z57 (nI_le (Nat.le_refl _) (by omega)))
          refine M.blk (is := [(.aload_n 0, 0, 0, 0), (.iconst 1, 0, 0, 1), (.iconst 0, 0, 0, 0), (.iconst 0, 0, 0, 0)]) (pc1 := 92) (lo1 := [(0, .ref 105), (1, .int (nI r)), (2, .int (nI c)), (3, .int (nI r))]) (st1 := [.int 0, .int 0, .int 1, .ref 105]) (w1 := (WP c0 c1 c2 c3 c4 PB (upd (upd (upd PS 7 (nI r)) 8 (nI c)) 9 (nI (r * c))) rest u)) (by decide +kernel) rfl ?_
          refine M.callV (as := [.int 1, .int 0, .int 0]) (st := []) (nx := 95) okX1_mix lkX1_55 (s_mix (r := r) (n := r * c) rfl rfl hr.2 ⟨by omega, h25⟩ 1 0 0) (by decide +kernel) (by decide) rfl (Nat.le_of_ble_eq_true rfl) rfl (by decide) ⟨by decide, by decide⟩ ?_
          intro r0 w1 hq
          rcases hq with ⟨_, _, hno⟩ | ⟨rfl, f, h, t, ⟨e1, e2, _, _, hf, _, hh, _⟩, PC, rfl, hk, hmix⟩
          · exact absurd ⟨1, 0, 0, rfl, rfl, rfl, Nat.le_refl _, by omega, Nat.gcd_one_right _, by omega, Nat.pow_pos (by decide)⟩ hno
          have ef : f = 1 := mix_f1 e1 (by omega)
          have eh : h = 0 := mix_f0 e2 (by omega)
          show g 0 0 95 [(0, .ref 105), (1, .int (nI r)), (2, .int (nI c)), (3, .int (nI r))] [.int 1] (WP c0 c1 c2 c3 c4 PC (upd (upd (upd (upd (upd (upd PS 7 (nI r)) 8 (nI c)) 9 (nI (r * c))) 10 1) 11 0) 12 0) rest u)
          exact M.retz (nx := 96) (by decide +kernel) (by decide) (Or.inr ⟨rfl, r, c, rfl, rfl, hr, hc, PC, _, rfl, ⟨rfl, rfl, rfl, rfl, rfl, rfl⟩, ⟨fun k hk1 => by rw [hk 0 (by decide), hk 2 (by decide), hk 3 (by decide), hk 4 (by decide)]; exact hv.1 k hk1, fun t ht => by rw [hk 1 (by decide)]; exact hv.2 t ht⟩, by rw [ef, eh] at hmix; exact hmix⟩)
        | succ m ih =>
          intro i PB him hv
          have inn : ∀ m2 j PB, j + m2 = c → LayInv r c (i * c + j) PB → g 0 0 63 [(0, .ref 105), (1, .int (nI r)), (2, .int (nI c)), (3, .int (nI i)), (4, .int (nI j))] [] (WP c0 c1 c2 c3 c4 PB (upd (upd (upd PS 7 (nI r)) 8 (nI c)) 9 (nI (r * c))) rest u) := by
            intro m2
            induction m2 with
            | zero =>
              intro j PB hjm hv
              have ej : c = j := by omega
              subst ej
              refine M.blk (is := [(.iload 4, 4, 0, 0), (.iload_n 2, 2, 0, 0)]) (pc1 := 66) (lo1 := [(0, .ref 105), (1, .int (nI r)), (2, .int (nI c)), (3, .int (nI i)), (4, .int (nI c))]) (st1 := [.int (nI c), .int (nI c)]) (w1 := (WP c0 c1 c2 c3 c4 PB (upd (upd (upd PS 7 (nI r)) 8 (nI c)) 9 (nI (r * c))) rest u)) (by decide +kernel) rfl ?_
              refine M.icmp_ge (off := 16) (tgt := 82) (nx := 69) (by decide +kernel) (fun z66 => ?_) (fun z66 => by exfalso; exact z66 (nI_le (Nat.le_refl _) (by omega)))
              refine M.blk (is := [(.iinc 3 1, 3, 0, 1), (.goto (-30), 55, 0, 0)]) (pc1 := 55) (lo1 := [(3, .int ((nI i) + 1)), (0, .ref 105), (1, .int (nI r)), (2, .int (nI c)), (4, .int (nI c))]) (st1 := []) (w1 := (WP c0 c1 c2 c3 c4 PB (upd (upd (upd PS 7 (nI r)) 8 (nI c)) 9 (nI (r * c))) rest u)) (by decide +kernel) rfl ?_
              refine M.lsub [1, 2, 3, 0] (lo1 := [(0, .ref 105), (1, .int (nI r)), (2, .int (nI c)), (3, .int ((nI i) + 1))]) rfl ?_
              rw [nI_1]
              exact ih (i + 1) PB (by omega) (by rw [Nat.succ_mul]; exact hv)
            | succ m2 ih2 =>
              intro j PB hjm hv
              refine M.blk (is := [(.iload 4, 4, 0, 0), (.iload_n 2, 2, 0, 0)]) (pc1 := 66) (lo1 := [(0, .ref 105), (1, .int (nI r)), (2, .int (nI c)), (3, .int (nI i)), (4, .int (nI j))]) (st1 := [.int (nI c), .int (nI j)]) (w1 := (WP c0 c1 c2 c3 c4 PB (upd (upd (upd PS 7 (nI r)) 8 (nI c)) 9 (nI (r * c))) rest u)) (by decide +kernel) rfl ?_
              refine M.icmp_ge (off := 16) (tgt := 82) (nx := 69) (by decide +kernel) (fun z66 => by exfalso; exact nI_ge (show j < c by omega) (by omega) z66) (fun z66 => ?_)
              refine M.blk (is := [(.aload_n 0, 0, 0, 0), (.iload_n 3, 3, 0, 0), (.iload 4, 4, 0, 0)]) (pc1 := 73) (lo1 := [(0, .ref 105), (1, .int (nI r)), (2, .int (nI c)), (3, .int (nI i)), (4, .int (nI j))]) (st1 := [.int (nI j), .int (nI i), .ref 105]) (w1 := (WP c0 c1 c2 c3 c4 PB (upd (upd (upd PS 7 (nI r)) 8 (nI c)) 9 (nI (r * c))) rest u)) (by decide +kernel) rfl ?_
              refine M.callV (as := [.int (nI i), .int (nI j)]) (st := []) (nx := 76) okX1_layCell lkX1_51 (s_layCell (r := r) (c := c) (i := i) (j := j) rfl rfl rfl h25 (by omega) (by omega) hv) (by decide +kernel) (by decide) rfl (Nat.le_of_ble_eq_true rfl) rfl (by decide) ⟨by decide, by decide⟩ ?_
              intro r0 w1 hq
              obtain ⟨rfl, PC, rfl, hv2, _, _⟩ := hq
              show g 0 0 76 [(0, .ref 105), (1, .int (nI r)), (2, .int (nI c)), (3, .int (nI i)), (4, .int (nI j))] [] (WP c0 c1 c2 c3 c4 PC (upd (upd (upd PS 7 (nI r)) 8 (nI c)) 9 (nI (r * c))) rest u)
              refine M.blk (is := [(.iinc 4 1, 4, 0, 1), (.goto (-16), 63, 0, 0)]) (pc1 := 63) (lo1 := [(4, .int ((nI j) + 1)), (0, .ref 105), (1, .int (nI r)), (2, .int (nI c)), (3, .int (nI i))]) (st1 := []) (w1 := (WP c0 c1 c2 c3 c4 PC (upd (upd (upd PS 7 (nI r)) 8 (nI c)) 9 (nI (r * c))) rest u)) (by decide +kernel) rfl ?_
              refine M.lsub [1, 2, 3, 4, 0] (lo1 := [(0, .ref 105), (1, .int (nI r)), (2, .int (nI c)), (3, .int (nI i)), (4, .int ((nI j) + 1))]) rfl ?_
              rw [nI_1]
              exact ih2 (j + 1) PC (by omega) hv2
          refine M.blk (is := [(.iload_n 3, 3, 0, 0), (.iload_n 1, 1, 0, 0)]) (pc1 := 57) (lo1 := [(0, .ref 105), (1, .int (nI r)), (2, .int (nI c)), (3, .int (nI i))]) (st1 := [.int (nI r), .int (nI i)]) (w1 := (WP c0 c1 c2 c3 c4 PB (upd (upd (upd PS 7 (nI r)) 8 (nI c)) 9 (nI (r * c))) rest u)) (by decide +kernel) rfl ?_
          refine M.icmp_ge (off := 31) (tgt := 88) (nx := 60) (by decide +kernel) (fun z57 => by exfalso; exact nI_ge (show i < r by omega) (by omega) z57) (fun z57 => ?_)
          refine M.blk (is := [(.iconst 0, 0, 0, 0), (.istore 4, 4, 0, 0)]) (pc1 := 63) (lo1 := [(4, .int 0), (0, .ref 105), (1, .int (nI r)), (2, .int (nI c)), (3, .int (nI i))]) (st1 := []) (w1 := (WP c0 c1 c2 c3 c4 PB (upd (upd (upd PS 7 (nI r)) 8 (nI c)) 9 (nI (r * c))) rest u)) (by decide +kernel) rfl ?_
          refine M.lsub [1, 2, 3, 4, 0] (lo1 := [(0, .ref 105), (1, .int (nI r)), (2, .int (nI c)), (3, .int (nI i)), (4, .int 0)]) rfl ?_
          exact inn c 0 PB (by omega) hv
      have lo1 : ∀ m k PB, k + m = 5 → (∀ t, t < k → PB 1 t = 0) → g 0 0 35 [(0, .ref 105), (1, .int (nI r)), (2, .int (nI c)), (3, .int (nI k))] [] (WP c0 c1 c2 c3 c4 PB (upd (upd (upd PS 7 (nI r)) 8 (nI c)) 9 (nI (r * c))) rest u) := by
        intro m
        induction m with
        | zero =>
          intro k PB hkm hv
          have ek : k = 5 := by omega
          subst ek
          refine M.blk (is := [(.iload_n 3, 3, 0, 0), (.iconst 5, 0, 0, 5)]) (pc1 := 37) (lo1 := [(0, .ref 105), (1, .int (nI r)), (2, .int (nI c)), (3, .int (nI 5))]) (st1 := [.int 5, .int (nI 5)]) (w1 := (WP c0 c1 c2 c3 c4 PB (upd (upd (upd PS 7 (nI r)) 8 (nI c)) 9 (nI (r * c))) rest u)) (by decide +kernel) rfl ?_
          refine M.icmp_ge (off := 16) (tgt := 53) (nx := 40) (by decide +kernel) (fun z37 => ?_) (fun z37 => by exfalso; exact z37 (by decide))
          refine M.blk (is := [(.iconst 0, 0, 0, 0), (.istore_n 3, 3, 0, 0)]) (pc1 := 55) (lo1 := [(3, .int 0), (0, .ref 105), (1, .int (nI r)), (2, .int (nI c))]) (st1 := []) (w1 := (WP c0 c1 c2 c3 c4 PB (upd (upd (upd PS 7 (nI r)) 8 (nI c)) 9 (nI (r * c))) rest u)) (by decide +kernel) rfl ?_
          refine M.lsub [1, 2, 3, 0] (lo1 := [(0, .ref 105), (1, .int (nI r)), (2, .int (nI c)), (3, .int 0)]) rfl ?_
          exact lo2 r 0 PB (by omega) (by rw [Nat.zero_mul]; exact ⟨fun k hk => absurd hk (Nat.not_lt_zero _), fun t ht => by rw [hv t ht]; rfl⟩)
        | succ m ih =>
          intro k PB hkm hv
          refine M.blk (is := [(.iload_n 3, 3, 0, 0), (.iconst 5, 0, 0, 5)]) (pc1 := 37) (lo1 := [(0, .ref 105), (1, .int (nI r)), (2, .int (nI c)), (3, .int (nI k))]) (st1 := [.int 5, .int (nI k)]) (w1 := (WP c0 c1 c2 c3 c4 PB (upd (upd (upd PS 7 (nI r)) 8 (nI c)) 9 (nI (r * c))) rest u)) (by decide +kernel) rfl ?_
          refine M.icmp_ge (off := 16) (tgt := 53) (nx := 40) (by decide +kernel) (fun z37 => by exfalso; exact nI_ge (a := k) (b := 5) (by omega) (by decide) z37) (fun z37 => ?_)
          refine M.blk (is := [(.aload_n 0, 0, 0, 0), (.getfield 15, 1, 1, 0), (.iload_n 3, 3, 0, 0), (.iconst 0, 0, 0, 0)]) (pc1 := 46) (lo1 := [(0, .ref 105), (1, .int (nI r)), (2, .int (nI c)), (3, .int (nI k))]) (st1 := [.int 0, .int (nI k), .ref 107]) (w1 := (WP c0 c1 c2 c3 c4 PB (upd (upd (upd PS 7 (nI r)) 8 (nI c)) 9 (nI (r * c))) rest u)) (by decide +kernel) rfl ?_
          refine M.ast (n := 5) (f := PB 1) (j := k) (nx := 47) (by decide +kernel) rfl rfl (by omega) (by decide) ?_
          show g 0 0 47 [(0, .ref 105), (1, .int (nI r)), (2, .int (nI c)), (3, .int (nI k))] [] (WP c0 c1 c2 c3 c4 (va_up PB 1 (upd (PB 1) k 0)) (upd (upd (upd PS 7 (nI r)) 8 (nI c)) 9 (nI (r * c))) rest u)
          refine M.blk (is := [(.iinc 3 1, 3, 0, 1), (.goto (-15), 35, 0, 0)]) (pc1 := 35) (lo1 := [(3, .int ((nI k) + 1)), (0, .ref 105), (1, .int (nI r)), (2, .int (nI c))]) (st1 := []) (w1 := (WP c0 c1 c2 c3 c4 (va_up PB 1 (upd (PB 1) k 0)) (upd (upd (upd PS 7 (nI r)) 8 (nI c)) 9 (nI (r * c))) rest u)) (by decide +kernel) rfl ?_
          refine M.lsub [1, 2, 3, 0] (lo1 := [(0, .ref 105), (1, .int (nI r)), (2, .int (nI c)), (3, .int ((nI k) + 1))]) rfl ?_
          rw [nI_1]
          refine ih (k + 1) _ (by omega) (fun t ht => ?_)
          show upd (PB 1) k 0 t = 0
          by_cases h0 : t = k
          · rw [h0, pk_us]
          · rw [pk_un h0]; exact hv t (by omega)
      refine M.blk (is := [(.iconst 0, 0, 0, 0), (.istore_n 3, 3, 0, 0)]) (pc1 := 35) (lo1 := [(3, .int 0), (0, .ref 105), (1, .int (nI r)), (2, .int (nI c))]) (st1 := []) (w1 := (WP c0 c1 c2 c3 c4 PA (upd (upd (upd PS 7 (nI r)) 8 (nI c)) 9 (nI (r * c))) rest u)) (by decide +kernel) rfl ?_
      refine M.lsub [1, 2, 3, 0] (lo1 := [(0, .ref 105), (1, .int (nI r)), (2, .int (nI c)), (3, .int 0)]) rfl ?_
      exact lo1 5 0 PA (by omega) (fun t ht => absurd ht (Nat.not_lt_zero _))
    · refine M.blk (is := [(.iconst 0, 0, 0, 0)]) (pc1 := 15) (lo1 := [(0, .ref 105), (1, .int x), (2, .int y)]) (st1 := [.int 0]) (w1 := (WP c0 c1 c2 c3 c4 PA PS rest u)) (by decide +kernel) rfl ?_
      exact M.retz (nx := 16) (by decide +kernel) (by decide) (Or.inl ⟨rfl, rfl, (fun ⟨r, c, e1, e2, a1, a2⟩ => sideF_no z11 c e2 a2)⟩)
end MIX
