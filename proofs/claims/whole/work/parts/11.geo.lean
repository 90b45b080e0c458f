/-! the sheet's geometry in plain numbers -/
def tyN (c k : Nat) : Nat := (k / c + 2 * (k % c)) % 5
def nbO (r c k d : Nat) : Option Nat := match d with
  | 0 => if 0 < k / c then some (k - c) else none
  | 1 => if k % c + 1 < c then some (k + 1) else none
  | 2 => if k / c + 1 < r then some (k + c) else none
  | _ => if 0 < k % c then some (k - 1) else none
def oI (o : Option Nat) : Int32 := match o with | none => -1 | some k => nI k
def thr (r c k : Nat) : Nat := (if (nbO r c k 0).isSome then 1 else 0) + ((if (nbO r c k 1).isSome then 2 else 0) + ((if (nbO r c k 2).isSome then 4 else 0) + (if (nbO r c k 3).isSome then 8 else 0)))
def mkT (c t m : Nat) : Nat := match m with
  | 0 => 0
  | m + 1 => mkT c t m + (if tyN c m = t then 2 ^ m else 0)
theorem mkT_lt (c t m : Nat) : mkT c t m < 2 ^ m := by
  induction m with
  | zero => exact Nat.one_pos
  | succ m ih =>
    unfold mkT
    rw [Nat.pow_succ]
    split <;> omega
theorem nI_or (a b : Nat) : nI a ||| nI b = nI (a ||| b) := by
  apply Int32.toBitVec_inj.mp
  rw [Int32.toBitVec_or]
  show BitVec.ofNat 32 a ||| BitVec.ofNat 32 b = BitVec.ofNat 32 (a ||| b)
  exact BitVec.ofNat_or.symm
theorem nI_or_pow {a m : Nat} (h : a < 2 ^ m) : nI a ||| nI (2 ^ m) = nI (a + 2 ^ m) := by
  rw [nI_or]
  congr 1
  have h1 := Nat.two_pow_add_eq_or_of_lt (i := m) (b := a) h 1
  rw [Nat.mul_one] at h1
  rw [Nat.add_comm, h1, Nat.or_comm]
theorem shl1 {m : Nat} (h : m < 31) : (1 : Int32) <<< (nI m &&& 31) = nI (2 ^ m) := by
  have key : ∀ m : Fin 31, (1 : Int32) <<< (nI m.val &&& 31) = nI (2 ^ m.val) := by decide +kernel
  exact key ⟨m, h⟩
theorem hf_rem {a d : Nat} (ha : a < 2147483648) (h0 : 0 < d) (hd : d < 2147483648) : jrem (nI a) (nI d) = nI (a % d) := pk_rem ha h0 hd
theorem oI_ne {k : Nat} (h : k < 1000) : ¬ nI k = -1 := by
  intro e
  have h1 := congrArg Int32.toInt e
  rw [nI_toInt (by omega)] at h1
  have h2 : (-1 : Int32).toInt = -1 := by decide
  omega
theorem Mach.lsub {d : Nat} {mt : Mt} {mc ms : Nat} {post : Option Value → Wd → Prop} {L : Nat} {xs : Nat → Int32} {g : Nat → Nat → Nat → Lo → List Value → Wd → Prop} {cs sl pc : Nat} {lo lo1 : Lo} {st : List Value} {w : Wd} (M : Mach d mt mc ms post L xs g) (ks : List Nat) (h : lv_pick lo ks = lo1) (k : g cs sl pc lo1 st w) : g cs sl pc lo st w := by
  obtain ⟨p, l, e, R, s, m, args, below, meth, c, Q, E, D, cI, cZ, ⟨hx, hb, hml, hown, hts, hK, hB, hR, hnm, hret, hscr⟩, rfl⟩ := M
  intro H locs ls hH hS hl
  refine k H locs ls hH hS ⟨hl.1, hl.2.1, fun q hq => ?_⟩
  subst h
  obtain ⟨q0, hq0, rfl⟩ := List.mem_map.mp hq
  unfold lv_pick at hq0
  obtain ⟨i, -, hi⟩ := List.mem_filterMap.mp hq0
  exact hl.2.2 _ (List.mem_map.mpr ⟨q0, List.mem_of_getElem? hi, rfl⟩)
theorem nI_le0 {i : Nat} (h : i < 2147483648) : nI i ≤ 0 ↔ i = 0 := by
  rw [show (0 : Int32) = nI 0 from rfl, nI_leI h (by decide)]
  omega
theorem nI_inj {a b : Nat} (ha : a < 2147483648) (hb : b < 2147483648) (h : nI a = nI b) : a = b := (nI_eq ha hb).mp h
def LayInv (r c m : Nat) (PA : Nat → Nat → Int32) : Prop := (∀ k, k < m → PA 0 k = nI (tyN c k) ∧ PA 2 k = nI (k / c) ∧ PA 4 k = nI (thr r c k) ∧ ∀ d, d < 4 → PA 3 (4 * k + d) = oI (nbO r c k d)) ∧ ∀ t, t < 5 → PA 1 t = nI (mkT c t m)
def MixInv (n f h m : Nat) (PA : Nat → Nat → Int32) : Prop := ∀ a, a < m → PA 5 a = nI ((f * a + h) % n) ∧ PA 6 ((f * a + h) % n) = nI a
def GeoOk (r c f h t : Nat) : Prop := (3 ≤ r ∧ r ≤ 5) ∧ (3 ≤ c ∧ c ≤ 5) ∧ (1 ≤ f ∧ f < r * c) ∧ Nat.gcd (r * c) f = 1 ∧ h < r * c ∧ t < 2 ^ r
def PlOk (r c f h t : Nat) (PA : Nat → Nat → Int32) (PS : Nat → Int32) : Prop := (PS 7 = nI r ∧ PS 8 = nI c ∧ PS 9 = nI (r * c) ∧ PS 10 = nI f ∧ PS 11 = nI h ∧ PS 12 = nI t) ∧ LayInv r c (r * c) PA ∧ MixInv (r * c) f h (r * c) PA
def mixP (r n : Nat) (x y z : Int32) : Prop := ∃ f h t : Nat, x = nI f ∧ y = nI h ∧ z = nI t ∧ 1 ≤ f ∧ f < n ∧ Nat.gcd n f = 1 ∧ h < n ∧ t < 2 ^ r
def layP (x y : Int32) : Prop := ∃ r c : Nat, x = nI r ∧ y = nI c ∧ (3 ≤ r ∧ r ≤ 5) ∧ (3 ≤ c ∧ c ≤ 5)
theorem mod_inj {n f h a b : Nat} (hg : Nat.gcd n f = 1) (ha : a < n) (hb : b < n) (e : (f * a + h) % n = (f * b + h) % n) : a = b := by
  have key : ∀ a b, a < n → b < n → a ≤ b → (f * a + h) % n = (f * b + h) % n → a = b := by
    intro a b ha hb hab e
    have h1 : (f * b + h - (f * a + h)) % n = 0 := Nat.sub_mod_eq_zero_of_mod_eq e.symm
    have h2 : f * b + h - (f * a + h) = f * (b - a) := by rw [Nat.mul_sub]; omega
    rw [h2] at h1
    have h3 : n ∣ f * (b - a) := Nat.dvd_of_mod_eq_zero h1
    have h4 : n ∣ b - a := Nat.Coprime.dvd_of_dvd_mul_left hg h3
    rcases Nat.eq_zero_or_pos (b - a) with h5 | h5
    · omega
    · have := Nat.le_of_dvd h5 h4
      omega
  rcases Nat.le_total a b with hab | hab
  · exact key a b ha hb hab e
  · exact (key b a hb ha hab e.symm).symm
theorem div_row {c i j : Nat} (hj : j < c) : (i * c + j) / c = i ∧ (i * c + j) % c = j := by
  have h0 : 0 < c := by omega
  rw [Nat.mul_comm, Nat.mul_add_div h0, Nat.mul_add_mod, Nat.div_eq_of_lt hj, Nat.mod_eq_of_lt hj]
  exact ⟨rfl, rfl⟩
theorem va_upS {α : Type} (f : Nat → α) (k : Nat) (v : α) : va_up f k v k = v := if_pos rfl
theorem va_upN {α : Type} (f : Nat → α) {k j : Nat} (v : α) (h : j ≠ k) : va_up f k v j = f j := if_neg h
theorem lay_V (s0 s1 s2 s3 : Bool) : ((((0 : Int32) ||| (if s0 then nI (2 ^ 0) else 0)) ||| (if s1 then nI (2 ^ 1) else 0)) ||| (if s2 then nI (2 ^ 2) else 0)) ||| (if s3 then nI (2 ^ 3) else 0) = nI ((if s0 then 1 else 0) + ((if s1 then 2 else 0) + ((if s2 then 4 else 0) + (if s3 then 8 else 0)))) := by
  cases s0 <;> cases s1 <;> cases s2 <;> cases s3 <;> decide
theorem lay_step {r c i j : Nat} {PA PB : Nat → Nat → Int32} {v0 v1 v2 v3 V : Int32} (hj : j < c) (hi : i < r) (h25 : r * c ≤ 25) (h : LayInv r c (i * c + j) PA)
    (e0 : PB 0 = upd (PA 0) (i * c + j) (nI (tyN c (i * c + j)))) (e1 : PB 1 = upd (PA 1) (tyN c (i * c + j)) (PA 1 (tyN c (i * c + j)) ||| nI (2 ^ (i * c + j)))) (e2 : PB 2 = upd (PA 2) (i * c + j) (nI i))
    (e3 : PB 3 = upd (upd (upd (upd (PA 3) (4 * (i * c + j) + 0) v0) (4 * (i * c + j) + 1) v1) (4 * (i * c + j) + 2) v2) (4 * (i * c + j) + 3) v3) (e4 : PB 4 (i * c + j) = V) (e5 : ∀ k, k ≠ i * c + j → PB 4 k = PA 4 k)
    (f0 : v0 = oI (nbO r c (i * c + j) 0)) (f1 : v1 = oI (nbO r c (i * c + j) 1)) (f2 : v2 = oI (nbO r c (i * c + j) 2)) (f3 : v3 = oI (nbO r c (i * c + j) 3)) (f4 : V = nI (thr r c (i * c + j))) : LayInv r c (i * c + j + 1) PB := by
  obtain ⟨hd1, hd2⟩ := div_row (i := i) hj
  generalize i * c + j = m at *
  obtain ⟨ha, hb⟩ := h
  refine ⟨fun k hk => ?_, fun t ht => ?_⟩
  · by_cases hkm : k = m
    · subst hkm
      refine ⟨by rw [e0, pk_us], by rw [e2, pk_us, hd1], by rw [e4, f4], fun d hd => ?_⟩
      rw [e3]
      rcases (show d = 0 ∨ d = 1 ∨ d = 2 ∨ d = 3 by omega) with rfl | rfl | rfl | rfl
      · rw [pk_un (by omega), pk_un (by omega), pk_un (by omega), pk_us, f0]
      · rw [pk_un (by omega), pk_un (by omega), pk_us, f1]
      · rw [pk_un (by omega), pk_us, f2]
      · rw [pk_us, f3]
    · obtain ⟨g1, g2, g3, g4⟩ := ha k (by omega)
      refine ⟨by rw [e0, pk_un hkm, g1], by rw [e2, pk_un hkm, g2], by rw [e5 k hkm, g3], fun d hd => ?_⟩
      rw [e3, pk_un (by omega), pk_un (by omega), pk_un (by omega), pk_un (by omega)]
      exact g4 d hd
  · rw [e1]
    unfold mkT
    by_cases htt : tyN c m = t
    · subst htt
      rw [pk_us, hb _ ht, if_pos rfl, nI_or_pow (mkT_lt c _ m)]
    · rw [pk_un (Ne.symm htt), if_neg htt, Nat.add_zero]
      exact hb t ht
