def bt (x : Int32) (i : Nat) : Bool := x.toBitVec.getLsbD i
theorem b_ext {x y : Int32} (h : ∀ i, i < 32 → bt x i = bt y i) : x = y := Int32.toBitVec_inj.mp (BitVec.eq_of_getLsbD_eq (fun i hi => h i hi))
theorem b_or (x y : Int32) (i : Nat) : bt (x ||| y) i = (bt x i || bt y i) := by unfold bt; rw [Int32.toBitVec_or, BitVec.getLsbD_or]
theorem b_and (x y : Int32) (i : Nat) : bt (x &&& y) i = (bt x i && bt y i) := by unfold bt; rw [Int32.toBitVec_and, BitVec.getLsbD_and]
theorem b_xor (x y : Int32) (i : Nat) : bt (x ^^^ y) i = (bt x i ^^ bt y i) := by unfold bt; rw [Int32.toBitVec_xor, BitVec.getLsbD_xor]
theorem b_big {x : Int32} {i : Nat} (h : 32 ≤ i) : bt x i = false := BitVec.getLsbD_of_ge _ _ h
theorem b_m1 : ∀ i, i < 32 → bt (-1) i = true := by decide +kernel
theorem b_0 (i : Nat) : bt 0 i = false := BitVec.getLsbD_zero
theorem s_l : ∀ n, n < 32 → ((nI n &&& 31).toBitVec.smod 32).toNat = n := by decide +kernel
theorem b_shl (n : Nat) (hn : n < 32) (x : Int32) {i : Nat} (hi : i < 32) : bt (x <<< (nI n &&& 31)) i = (decide (n ≤ i) && bt x (i - n)) := by
  unfold bt
  rw [Int32.toBitVec_shiftLeft]
  show (x.toBitVec <<< ((nI n &&& 31).toBitVec.smod 32).toNat).getLsbD i = _
  rw [s_l n hn, BitVec.getLsbD_shiftLeft]
  rcases Nat.lt_or_ge i n with h | h
  · simp [h, Nat.not_le.mpr h]
  · simp [hi, h, Nat.not_lt.mpr h]
theorem b_sshr (n : Nat) (hn : n < 32) (x : Int32) {i : Nat} (hi : i < 32) : bt (x >>> (nI n &&& 31)) i = if n + i < 32 then bt x (n + i) else bt x 31 := by
  unfold bt
  rw [Int32.toBitVec_shiftRight]
  show (x.toBitVec.sshiftRight ((nI n &&& 31).toBitVec.smod 32).toNat).getLsbD i = _
  rw [s_l n hn, BitVec.getLsbD_sshiftRight, BitVec.msb_eq_getLsbD_last]
  simp [hi]
def bN (B : Int32) (m : Nat) : Nat := if bt B m = true then 1 else 0
theorem bN_2 (B : Int32) (m : Nat) : bN B m < 2 := by unfold bN; split <;> omega
theorem b_one : ∀ i, i < 32 → bt 1 i = decide (i = 0) := by decide +kernel
theorem b_nI01 {v : Nat} (hv : v < 2) : ∀ i, i < 32 → bt (nI v) i = (decide (i = 0) && decide (v = 1)) := by
  rcases (show v = 0 ∨ v = 1 by omega) with rfl | rfl
  · decide +kernel
  · decide +kernel
theorem bit_nI (B : Int32) {m : Nat} (hm : m < 32) : (B >>> (nI m &&& 31)) &&& 1 = nI (bN B m) := by
  apply b_ext
  intro i hi
  rw [b_and, b_one i hi, b_nI01 (bN_2 B m) i hi]
  by_cases e : i = 0
  · subst e
    rw [b_sshr m hm B hi, if_pos (by omega)]
    unfold bN
    cases h : bt B m <;> simp [h]
  · simp [e]
theorem b_1shl {m : Nat} (hm : m < 32) {i : Nat} (hi : i < 32) : bt ((1 : Int32) <<< (nI m &&& 31)) i = decide (i = m) := by
  rw [b_shl m hm 1 hi]
  by_cases h : m ≤ i
  · rw [b_one (i - m) (by omega)]
    by_cases e : i = m
    · subst e; simp
    · simp [h, e, show ¬ i - m = 0 by omega]
  · simp [h, show ¬ i = m by omega]
def putI (B : Int32) (k : Nat) (v : Int32) : Int32 := if ¬ v = 1 then B &&& ((1 <<< (nI k &&& 31)) ^^^ (-1)) else B ||| (1 <<< (nI k &&& 31))
theorem bt_put (B : Int32) {k : Nat} (hk : k < 32) (v : Int32) {i : Nat} (hi : i < 32) : bt (putI B k v) i = if i = k then decide (v = 1) else bt B i := by
  unfold putI
  by_cases hv : v = 1
  · rw [if_neg (fun h => h hv), b_or, b_1shl hk hi]
    by_cases e : i = k
    · simp [e, hv]
    · simp [e]
  · rw [if_pos hv, b_and, b_xor, b_1shl hk hi, b_m1 i hi]
    by_cases e : i = k
    · simp [e, hv]
    · simp [e]
theorem hb_iff (B : Int32) {m : Nat} (hm : m < 32) : hbF B (nI m) = b2i (bt B m) := by
  unfold hbF
  rw [bit_nI B hm]
  unfold bN b2i
  cases h : bt B m
  · rw [if_neg (by decide), if_neg (by decide)]
  · rw [if_pos rfl, if_pos rfl]; rfl
theorem pigeon : ∀ (n : Nat) (g : Nat → Nat), (∀ a, a < n → g a < n) → (∀ a b, a < n → b < n → g a = g b → a = b) → ∀ k, k < n → ∃ a, a < n ∧ g a = k
  | 0, _, _, _, k, hk => absurd hk (Nat.not_lt_zero _)
  | n + 1, g, hg, hi, k, hk => by
    by_cases hl : g n = k
    · exact ⟨n, by omega, hl⟩
    · -- the others, with the last one's value taken by n
      have hgn := hg n (by omega)
      have key := pigeon n (fun a => if g a = n then g n else g a) (fun a ha => by
        have h1 := hg a (by omega)
        by_cases e : g a = n
        · rw [if_pos e]
          have : g n ≠ n := fun e2 => by have := hi a n (by omega) (by omega) (e.trans e2.symm); omega
          omega
        · rw [if_neg e]; omega) (fun a b ha hb e => by
        by_cases e1 : g a = n
        · rw [if_pos e1] at e
          by_cases e2 : g b = n
          · exact hi a b (by omega) (by omega) (e1.trans e2.symm)
          · rw [if_neg e2] at e
            have := hi n b (by omega) (by omega) e
            omega
        · rw [if_neg e1] at e
          by_cases e2 : g b = n
          · rw [if_pos e2] at e
            have := hi a n (by omega) (by omega) e
            omega
          · rw [if_neg e2] at e
            exact hi a b (by omega) (by omega) e)
      by_cases hkn : k = n
      · -- n itself: hit by the last, or by the one whose value was changed
        subst hkn
        by_cases h2 : ∃ a, a < k ∧ g a = k
        · obtain ⟨a, ha, e⟩ := h2
          exact ⟨a, by omega, e⟩
        · exfalso
          have hlt : g k < k := by omega
          obtain ⟨a, ha, e⟩ := key (g k) hlt
          rw [if_neg (fun z => h2 ⟨a, ha, z⟩)] at e
          have := hi a k (by omega) (by omega) e
          omega
      · obtain ⟨a, ha, e⟩ := key k (by omega)
        by_cases e1 : g a = n
        · rw [if_pos e1] at e
          exact absurd e hl
        · rw [if_neg e1] at e
          exact ⟨a, by omega, e⟩
theorem mod_sur {n f h k : Nat} (hg : Nat.gcd n f = 1) (hk : k < n) : ∃ a, a < n ∧ (f * a + h) % n = k := pigeon n (fun a => (f * a + h) % n) (fun a ha => Nat.mod_lt _ (by omega)) (fun a b ha hb e => mod_inj hg ha hb e) k hk
