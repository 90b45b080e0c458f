/-! the sheet's geometry in plain numbers -/
def tyN (c k : Nat) : Nat := (k / c + 2 * (k % c)) % 5
def nbO (r c k d : Nat) : Option Nat := match d with
  | 0 => if 0 < k / c then some (k - c) else none
  | 1 => if k % c + 1 < c then some (k + 1) else none
  | 2 => if k / c + 1 < r then some (k + c) else none
  | _ => if 0 < k % c then some (k - 1) else none
def oI (o : Option Nat) : Int32 := match o with | none => -1 | some k => nI k
def thr (r c k : Nat) : Nat := (if (nbO r c k 0).isSome then 1 else 0) + ((if (nbO r c k 1).isSome then 2 else 0) + ((if (nbO r c k 2).isSome then 4 else 0) + (if (nbO r c k 3).isSome then 8 else 0)))
def mkT (c t m : Nat) : Nat := match m with
  | 0 => 0
  | m + 1 => mkT c t m + (if tyN c m = t then 2 ^ m else 0)
theorem mkT_lt (c t m : Nat) : mkT c t m < 2 ^ m := by
  induction m with
  | zero => exact Nat.one_pos
  | succ m ih =>
    unfold mkT
    rw [Nat.pow_succ]
    split <;> omega
theorem nI_or (a b : Nat) : nI a ||| nI b = nI (a ||| b) := by
  apply Int32.toBitVec_inj.mp
  rw [Int32.toBitVec_or]
  show BitVec.ofNat 32 a ||| BitVec.ofNat 32 b = BitVec.ofNat 32 (a ||| b)
  exact BitVec.ofNat_or.symm
theorem nI_or_pow {a m : Nat} (h : a < 2 ^ m) : nI a ||| nI (2 ^ m) = nI (a + 2 ^ m) := by
  rw [nI_or]
  congr 1
  have h1 := Nat.two_pow_add_eq_or_of_lt (i := m) (b := a) h 1
  rw [Nat.mul_one] at h1
  rw [Nat.add_comm, h1, Nat.or_comm]
theorem shl1 {m : Nat} (h : m < 31) : (1 : Int32) <<< (nI m &&& 31) = nI (2 ^ m) := by
  have key : ∀ m : Fin 31, (1 : Int32) <<< (nI m.val &&& 31) = nI (2 ^ m.val) := by decide +kernel
  exact key ⟨m, h⟩
theorem hf_rem {a d : Nat} (ha : a < 2147483648) (h0 : 0 < d) (hd : d < 2147483648) : jrem (nI a) (nI d) = nI (a % d) := pk_rem ha h0 hd
theorem oI_ne {k : Nat} (h : k < 1000) : ¬ nI k = -1 := by
  intro e
  have h1 := congrArg Int32.toInt e
  rw [nI_toInt (by omega)] at h1
  have h2 : (-1 : Int32).toInt = -1 := by decide
  omega
