section MATHB
theorem bN_put (B : Int32) {m : Nat} (hm : m < 32) {v : Nat} (hv : v < 2) {i : Nat} (hi : i < 32) : bN (putI B m (nI v)) i = if i = m then v else bN B i := by
  unfold bN
  rw [bt_put B hm (nI v) hi]
  by_cases e : i = m
  · rw [if_pos e, if_pos e]
    rcases (show v = 0 ∨ v = 1 by omega) with rfl | rfl <;> rfl
  · rw [if_neg e, if_neg e]
theorem bt_putN (B : Int32) {m : Nat} (hm : m < 32) {v : Nat} (hv : v < 2) {i : Nat} (hi : i < 32) : bt (putI B m (nI v)) i = if i = m then decide (v = 1) else bt B i := by
  rw [bt_put B hm (nI v) hi]
  rcases (show v = 0 ∨ v = 1 by omega) with rfl | rfl <;> rfl
theorem p4_0 : ∀ a b c e v : Fin 2, v.val + (2 * b.val + (4 * c.val + 8 * e.val)) = (if v.val = a.val then a.val + (2 * b.val + (4 * c.val + 8 * e.val)) else (a.val + (2 * b.val + (4 * c.val + 8 * e.val))) ^^^ 2 ^ 0) ∧ (a.val + (2 * b.val + (4 * c.val + 8 * e.val))) / 2 ^ 0 % 2 = a.val := by decide +kernel
theorem p4_1 : ∀ a b c e v : Fin 2, a.val + (2 * v.val + (4 * c.val + 8 * e.val)) = (if v.val = b.val then a.val + (2 * b.val + (4 * c.val + 8 * e.val)) else (a.val + (2 * b.val + (4 * c.val + 8 * e.val))) ^^^ 2 ^ 1) ∧ (a.val + (2 * b.val + (4 * c.val + 8 * e.val))) / 2 ^ 1 % 2 = b.val := by decide +kernel
theorem p4_2 : ∀ a b c e v : Fin 2, a.val + (2 * b.val + (4 * v.val + 8 * e.val)) = (if v.val = c.val then a.val + (2 * b.val + (4 * c.val + 8 * e.val)) else (a.val + (2 * b.val + (4 * c.val + 8 * e.val))) ^^^ 2 ^ 2) ∧ (a.val + (2 * b.val + (4 * c.val + 8 * e.val))) / 2 ^ 2 % 2 = c.val := by decide +kernel
theorem p4_3 : ∀ a b c e v : Fin 2, a.val + (2 * b.val + (4 * c.val + 8 * v.val)) = (if v.val = e.val then a.val + (2 * b.val + (4 * c.val + 8 * e.val)) else (a.val + (2 * b.val + (4 * c.val + 8 * e.val))) ^^^ 2 ^ 3) ∧ (a.val + (2 * b.val + (4 * c.val + 8 * e.val))) / 2 ^ 3 % 2 = e.val := by decide +kernel
section GEOB
variable {r c f h t : Nat}
theorem pb_2 (B : Int32) (k d : Nat) : pbN r c B k d < 2 := by
  unfold pbN
  split
  · omega
  · exact bN_2 _ _
theorem pat_congr {B B' : Int32} {k : Nat} (h : ∀ d m, d < 4 → nbO r c k d = some m → bN B m = bN B' m) : patN r c B k = patN r c B' k := by
  have key : ∀ d, d < 4 → pbN r c B k d = pbN r c B' k d := by
    intro d hd
    unfold pbN
    cases hn : nbO r c k d with
    | none => rfl
    | some m => exact h d m hd hn
  unfold patN
  rw [key 0 (by omega), key 1 (by omega), key 2 (by omega), key 3 (by omega)]
theorem pat_16 (B : Int32) (k : Nat) : patN r c B k < 16 := by
  unfold patN
  have h0 := pb_2 (r := r) (c := c) B k 0
  have h1 := pb_2 (r := r) (c := c) B k 1
  have h2 := pb_2 (r := r) (c := c) B k 2
  have h3 := pb_2 (r := r) (c := c) B k 3
  omega
theorem pat_put (hg : GeoOk r c f h t) {k d m v : Nat} (hk : k < r * c) (hd : d < 4) (hm : nbO r c k d = some m) (hv : v < 2) (B : Int32) : patN r c (putI B m (nI v)) k = (if v = bN B m then patN r c B k else patN r c B k ^^^ 2 ^ d) ∧ patN r c B k / 2 ^ d % 2 = bN B m := by
  have h25 : r * c ≤ 25 := Nat.mul_le_mul hg.1.2 hg.2.1.2
  have hm1 := nb_lt hk hm
  have oth : ∀ e, e < 4 → ¬ e = d → pbN r c (putI B m (nI v)) k e = pbN r c B k e := by
    intro e he hed
    unfold pbN
    cases hn : nbO r c k e with
    | none => rfl
    | some m' =>
      have h1 := nb_lt hk hn
      show bN (putI B m (nI v)) m' = bN B m'
      rw [bN_put B (by omega) hv (by omega), if_neg]
      rintro rfl
      exact hed (nb_apart hg hk he hd hn hm)
  have slf : pbN r c (putI B m (nI v)) k d = v := by
    unfold pbN
    rw [hm]
    show bN (putI B m (nI v)) m = v
    rw [bN_put B (by omega) hv (by omega), if_pos rfl]
  have old : bN B m = pbN r c B k d := by
    unfold pbN
    rw [hm]
  rw [old]
  unfold patN
  have l0 := pb_2 (r := r) (c := c) B k 0
  have l1 := pb_2 (r := r) (c := c) B k 1
  have l2 := pb_2 (r := r) (c := c) B k 2
  have l3 := pb_2 (r := r) (c := c) B k 3
  rcases (show d = 0 ∨ d = 1 ∨ d = 2 ∨ d = 3 by omega) with rfl | rfl | rfl | rfl
  · rw [slf, oth 1 (by omega) (by omega), oth 2 (by omega) (by omega), oth 3 (by omega) (by omega)]
    exact p4_0 ⟨_, l0⟩ ⟨_, l1⟩ ⟨_, l2⟩ ⟨_, l3⟩ ⟨v, hv⟩
  · rw [slf, oth 0 (by omega) (by omega), oth 2 (by omega) (by omega), oth 3 (by omega) (by omega)]
    exact p4_1 ⟨_, l0⟩ ⟨_, l1⟩ ⟨_, l2⟩ ⟨_, l3⟩ ⟨v, hv⟩
  · rw [slf, oth 0 (by omega) (by omega), oth 1 (by omega) (by omega), oth 3 (by omega) (by omega)]
    exact p4_2 ⟨_, l0⟩ ⟨_, l1⟩ ⟨_, l2⟩ ⟨_, l3⟩ ⟨v, hv⟩
  · rw [slf, oth 0 (by omega) (by omega), oth 1 (by omega) (by omega), oth 2 (by omega) (by omega)]
    exact p4_3 ⟨_, l0⟩ ⟨_, l1⟩ ⟨_, l2⟩ ⟨_, l3⟩ ⟨v, hv⟩
theorem pat_self (hg : GeoOk r c f h t) {k v : Nat} (hk : k < r * c) (hv : v < 2) (B : Int32) : patN r c (putI B k (nI v)) k = patN r c B k := by
  have h25 : r * c ≤ 25 := Nat.mul_le_mul hg.1.2 hg.2.1.2
  refine pat_congr (fun d m hd hn => ?_)
  have h1 := nb_lt hk hn
  rw [bN_put B (by omega) hv (by omega), if_neg (nb_self hg hk hd hn)]
theorem rm_wd : ∀ (a : Fin 16) (d : Fin 4) (q : Fin 8), (clrB a.val d.val = wdB q.val d.val) ↔ (rmB a.val d.val = q.val) := by decide +kernel
theorem hld_see (hg : GeoOk r c f h t) {k κ p : Nat} (hk : k < r * c) (B : Int32) : patN r c (hldN r c k κ p B) k = patN r c B k ∧ nI (bN (hldN r c k κ p B) k) = hlP κ (patN r c B k) p (nI (bN B k)) ∧ ∀ i, i < 32 → i ≠ k → bt (hldN r c k κ p B) i = bt B i := by
  have h25 : r * c ≤ 25 := Nat.mul_le_mul hg.1.2 hg.2.1.2
  have hp2 : p % 2 < 2 := Nat.mod_lt _ (by decide)
  unfold hldN
  by_cases e : κ = 0 ∧ patN r c B k = ptP κ p
  · rw [if_pos e]
    refine ⟨pat_self hg hk hp2 B, ?_, fun i hi hik => ?_⟩
    · rw [bN_put B (by omega) hp2 (by omega), if_pos rfl]
      obtain ⟨rfl, e2⟩ := e
      have e3 : patN r c B k = p / 2 := by rw [e2]; rfl
      unfold hlP
      rw [e3]
      rcases (show p % 2 = 0 ∨ p % 2 = 1 by omega) with e4 | e4
      · rw [if_pos ⟨rfl, by omega⟩, e4]; rfl
      · rw [if_neg (by omega), if_pos ⟨rfl, by omega⟩, e4]; rfl
    · rw [bt_putN B (by omega) hp2 hi, if_neg hik]
  · rw [if_neg e]
    refine ⟨rfl, ?_, fun i _ _ => rfl⟩
    unfold hlP
    have e5 : ∀ q : Nat, κ = 0 → patN r c B k = q → ¬ p / 2 = q := by
      intro q h0 hq h2
      refine e ⟨h0, ?_⟩
      rw [hq, ← h2, h0]; rfl
    rw [if_neg (fun h => e5 _ h.1 rfl (by omega)), if_neg (fun h => e5 _ h.1 rfl (by omega))]
theorem nI_b {b : Nat} (hb : b < 2) : (nI b = 0 ↔ b = 0) ∧ (nI b = 1 ↔ b = 1) := by
  rcases (show b = 0 ∨ b = 1 by omega) with rfl | rfl <;> decide
theorem wrt_nb (hg : GeoOk r c f h t) {k κ p d m v : Nat} (hk : k < r * c) (h3 : κ < 3) (hp : p < ptsN κ) (hd : d < 4) (hm : nbO r c k d = some m) (hv : v < 2) (B : Int32) :
    patN r c (wrtN r c k κ p m v B) k = (if v = bN B m then patN r c B k else patN r c B k ^^^ 2 ^ d) ∧
    nI (bN (wrtN r c k κ p m v B) k) = hlP κ (if v = bN B m then patN r c B k else patN r c B k ^^^ 2 ^ d) p (if v = bN B m then nI (bN B k) else if κ = 2 then trP (32 * d + 16 * v + 2 * rmB (patN r c B k ^^^ 2 ^ d) d) p (nI (bN B k)) else nI (bN B k)) ∧
    ∀ i, i < 32 → i ≠ k → bt (wrtN r c k κ p m v B) i = if i = m then decide (v = 1) else bt B i := by
  have h25 : r * c ≤ 25 := Nat.mul_le_mul hg.1.2 hg.2.1.2
  have hm1 := nb_lt hk hm
  have hmk := nb_self hg hk hd hm
  have hp2 : 1 - p % 2 < 2 := by omega
  obtain ⟨hpat, _⟩ := pat_put hg hk hd hm hv B
  have hbk : bN (putI B m (nI v)) k = bN B k := by rw [bN_put B (by omega) hv (by omega), if_neg (fun e => hmk e.symm)]
  have hb2 := bN_2 B k
  unfold wrtN
  rw [if_neg (fun hh => hmk hh.2.1)]
  by_cases e : (κ = 2 ∧ some m = nbO r c k (p / 32) ∧ ¬ v = bN B m ∧ v = p / 16 % 2) ∧ clrB (patN r c (putI B m (nI v)) k) (p / 32) = ptP κ p ∧ bN (putI B m (nI v)) k = p % 2
  · rw [if_pos e]
    obtain ⟨q1, q2, q3⟩ := hld_see hg (κ := κ) (p := p) hk (putI (putI B m (nI v)) k (nI (1 - p % 2)))
    obtain ⟨⟨rfl, e2, e3, e4⟩, e5, e6⟩ := e
    have hp3 : p < 128 := hp
    have e7 : d = p / 32 := nb_apart hg hk hd (by omega) hm e2.symm
    rw [pat_self hg hk hp2, hpat, if_neg e3] at q1
    rw [pat_self hg hk hp2, hpat, if_neg e3, bN_put _ (by omega) hp2 (by omega), if_pos rfl] at q2
    rw [hpat, if_neg e3] at e5
    rw [hbk] at e6
    refine ⟨by rw [if_neg e3]; exact q1, ?_, fun i hi hik => ?_⟩
    · rw [q2, if_neg e3, if_neg e3, if_pos rfl]
      refine congrArg _ ?_
      have h16 : patN r c B k ^^^ 2 ^ d < 16 := by
        have := pat_16 (r := r) (c := c) (putI B m (nI v)) k
        rw [hpat, if_neg e3] at this
        exact this
      have e8 := (rm_wd ⟨_, h16⟩ ⟨d, hd⟩ ⟨p / 2 % 8, by omega⟩).mp (by unfold ptP at e5; rw [if_pos rfl, ← e7] at e5; exact e5)
      have e9 : rmB (patN r c B k ^^^ 2 ^ d) d = p / 2 % 8 := e8
      unfold trP
      rw [e9, ← e6]
      rcases (show bN B k = 0 ∨ bN B k = 1 by omega) with e10 | e10
      · rw [e10, if_pos ⟨by omega, rfl⟩]; rfl
      · rw [e10, if_neg (fun h => absurd h.2 (by decide)), if_pos ⟨by omega, rfl⟩]; rfl
    · rw [q3 i hi hik, bt_putN _ (by omega) hp2 hi, if_neg hik, bt_putN B (by omega) hv hi]
  · rw [if_neg e]
    obtain ⟨q1, q2, q3⟩ := hld_see hg (κ := κ) (p := p) hk (putI B m (nI v))
    rw [hpat] at q1
    rw [hpat, hbk] at q2
    refine ⟨q1, ?_, fun i hi hik => ?_⟩
    · rw [q2]
      refine congrArg _ ?_
      by_cases e3 : v = bN B m
      · rw [if_pos e3]
      · rw [if_neg e3]
        by_cases e4 : κ = 2
        · rw [if_pos e4]
          subst e4
          have hp3 : p < 128 := hp
          have h16 : patN r c B k ^^^ 2 ^ d < 16 := by
            have := pat_16 (r := r) (c := c) (putI B m (nI v)) k
            rw [hpat, if_neg e3] at this
            exact this
          have key : ∀ x : Nat, x < 2 → p = 32 * d + 16 * v + 2 * rmB (patN r c B k ^^^ 2 ^ d) d + x → ¬ bN B k = x := by
            intro x hx hpx hbx
            have hr8 : rmB (patN r c B k ^^^ 2 ^ d) d < 8 := (bs_q ⟨_, h16⟩ ⟨d, hd⟩).2
            have hdd : d = p / 32 := by omega
            refine e ⟨⟨rfl, by rw [← hdd, hm], e3, by omega⟩, ?_, by rw [hbk, hbx]; omega⟩
            rw [hpat, if_neg e3, ← hdd]
            have := (rm_wd ⟨_, h16⟩ ⟨d, hd⟩ ⟨p / 2 % 8, by omega⟩).mpr (show rmB (patN r c B k ^^^ 2 ^ d) d = p / 2 % 8 by omega)
            unfold ptP
            rw [if_pos rfl, ← hdd]
            exact this
          unfold trP
          rw [if_neg (fun hh => key 0 (by omega) (by omega) ((nI_b hb2).1.mp hh.2)), if_neg (fun hh => key 1 (by omega) hh.1 ((nI_b hb2).2.mp hh.2))]
        · rw [if_neg e4]
    · rw [q3 i hi hik, bt_putN B (by omega) hv hi]
theorem wrt_self (hg : GeoOk r c f h t) {k κ p v : Nat} (hk : k < r * c) (h3 : κ < 3) (hp : p < ptsN κ) (hv : v < 2) (B : Int32) :
    patN r c (wrtN r c k κ p k v B) k = patN r c B k ∧
    nI (bN (wrtN r c k κ p k v B) k) = hlP κ (patN r c B k) p (itP κ p (patN r c B k) v (nI (bN B k))) ∧
    ∀ i, i < 32 → i ≠ k → bt (wrtN r c k κ p k v B) i = bt B i := by
  have h25 : r * c ≤ 25 := Nat.mul_le_mul hg.1.2 hg.2.1.2
  have hb2 := bN_2 B k
  unfold wrtN
  by_cases e : κ = 1 ∧ k = k ∧ ¬ v = bN B k ∧ bN B k = p % 2 ∧ patN r c B k = ptP κ p
  · rw [if_pos e]
    refine ⟨rfl, ?_, fun i _ _ => rfl⟩
    obtain ⟨rfl, _, e2, e3, e4⟩ := e
    have e5 : patN r c B k = p / 2 := by rw [e4]; rfl
    unfold hlP itP
    rw [if_neg (fun hh => absurd hh.1 (by decide)), if_neg (fun hh => absurd hh.1 (by decide)), if_neg]
    intro hh
    exact hh ⟨rfl, by omega⟩
  · rw [if_neg e, if_neg]
    · obtain ⟨q1, q2, q3⟩ := hld_see hg (κ := κ) (p := p) hk (putI B k (nI v))
      rw [pat_self hg hk hv] at q1 q2
      rw [bN_put B (by omega) hv (by omega), if_pos rfl] at q2
      refine ⟨q1, ?_, fun i hi hik => ?_⟩
      · rw [q2]
        refine congrArg _ ?_
        unfold itP
        by_cases e2 : κ = 1 ∧ p = 2 * patN r c B k + 1 - v
        · rw [if_neg (fun hh => hh e2)]
          obtain ⟨rfl, e3⟩ := e2
          by_cases e4 : v = bN B k
          · rw [e4]
          · refine absurd ⟨rfl, rfl, e4, by omega, ?_⟩ e
            unfold ptP
            rw [if_neg (by decide)]
            omega
        · rw [if_pos e2]
      · rw [q3 i hi hik, bt_putN B (by omega) hv hi, if_neg hik]
    · rintro ⟨⟨rfl, e2, _, _⟩, _⟩
      have hp3 : p < 128 := hp
      exact nb_self hg hk (show p / 32 < 4 by omega) e2.symm rfl
def drO (r c k d : Nat) : Option Nat := if d < 4 then nbO r c k d else some k
theorem sh_bit {wh td S : Int32} {i : Nat} (hi : i < 32) : bt (shI wh td S) i = if bt wh i = true then bt td i else bt S i := by
  unfold shI
  rw [b_or, b_and, b_and, b_xor, b_m1 i hi]
  cases bt wh i <;> cases bt td i <;> cases bt S i <;> rfl
theorem pl_bit {wh nr td B : Int32} {i : Nat} (hi : i < 32) : bt (plI wh nr td B) i = if (bt wh i && !bt nr i) = true then bt td i else bt B i := by
  unfold plI
  rw [b_or, b_and, b_and, b_and, b_xor, b_and, b_xor, b_m1 i hi]
  cases bt wh i <;> cases bt nr i <;> cases bt td i <;> cases bt B i <;> rfl
/-- the reference in the middle of a write: L the directions still to come -/
def MI (r c k : Nat) (B S T : Int32) (z : Nat × Nat × Int32) (L : List Nat) : Prop := patN r c B k = z.1 ∧ z.2.2 = nI (bN B k) ∧ (∀ d, d ∈ L → d < 4 → ∀ m, nbO r c k d = some m → bt B m = bt S m) ∧ (∀ i, i < 32 → i ≠ k → (∀ d, d ∈ L → d < 4 → nbO r c k d ≠ some i) → bt B i = bt T i) ∧ z.2.1 = if 4 ∈ L then bN S k else bN T k
theorem bN_of {A B : Int32} {i j : Nat} (h : bt A i = bt B j) : bN A i = bN B j := by unfold bN; rw [h]
theorem bt_d (B : Int32) (i : Nat) : decide (bN B i = 1) = bt B i := by unfold bN; cases bt B i <;> rfl
theorem wD_some (k κ p : Nat) (wh td B : Int32) (m : Nat) : wD r c k κ p wh td (some m) B = if bt wh m = true then wrtN r c k κ p m (bN td m) B else B := rfl
theorem wD_none (k κ p : Nat) (wh td B : Int32) : wD r c k κ p wh td none B = B := rfl
def tyO (c : Nat) (o : Option Nat) : Int32 := match o with | none => -1 | some m => nI (tyN c m)
theorem tau_d {k d : Nat} (hd : d < 4) : tauG r c k d = tyO c (nbO r c k d) := by unfold tauG tyO; rw [if_pos hd]; cases nbO r c k d <;> rfl
theorem mi_step (hg : GeoOk r c f h t) {k κ p : Nat} (hk : k < r * c) (h3 : κ < 3) (hp : p < ptsN κ) {s S B : Int32} (hs : sgnB s = true) (hr : ¬ s = 114) {z : Nat × Nat × Int32} {d : Nat} {L : List Nat} (hd : d < 5) (hdL : d ∉ L) (hM : MI r c k B S (shI (whI r c s) (tdI (r * c) s S) S) z (d :: L)) :
    MI r c k (wD r c k κ p (whI r c s) (tdI (r * c) s S) (drO r c k d) B) S (shI (whI r c s) (tdI (r * c) s S) S) (mcr κ p (tauG r c k) s d z) L := by
  have h25 : r * c ≤ 25 := Nat.mul_le_mul hg.1.2 hg.2.1.2
  obtain ⟨P1, P2, P3, P4, P5⟩ := hM
  by_cases h4 : d = 4
  · subst h4
    have hbw := wh_bit hg hs hr (i := k) (by omega)
    rw [decide_eq_true hk, Bool.true_and] at hbw
    have hz : z.2.1 = bN S k := by rw [P5, if_pos List.mem_cons_self]
    have P3' : ∀ d, d ∈ L → d < 4 → ∀ m, nbO r c k d = some m → bt B m = bt S m := fun d hd => P3 d (List.mem_cons_of_mem _ hd)
    have P4' : ∀ i, i < 32 → i ≠ k → (∀ d, d ∈ L → d < 4 → nbO r c k d ≠ some i) → bt B i = bt (shI (whI r c s) (tdI (r * c) s S) S) i := by
      intro i hi hik hh
      refine P4 i hi hik (fun d hd h4 => ?_)
      rcases List.mem_cons.mp hd with rfl | hd
      · exact absurd h4 (by decide)
      · exact hh d hd h4
    have eT := sh_bit (wh := whI r c s) (td := tdI (r * c) s S) (S := S) (i := k) (by omega)
    unfold mcr
    rw [show tauG r c k 4 = nI (tyN c k) from rfl, ← hbw]
    rw [show drO r c k 4 = some k from rfl, wD_some]
    cases hw : bt (whI r c s) k with
    | false =>
      rw [if_neg (by decide), if_neg (by decide)]
      refine ⟨P1, P2, P3', P4', ?_⟩
      rw [if_neg hdL, hz]
      rw [hw, if_neg (by decide)] at eT
      exact (bN_of eT).symm
    | true =>
      rw [if_pos rfl, if_pos rfl, if_pos rfl, td_bit hg hs hr hk, hz]
      rw [hw, if_pos rfl] at eT
      have hv : wrN s (bN S k) < 2 := by rw [← td_bit hg hs hr hk]; exact bN_2 _ _
      obtain ⟨q1, q2, q3⟩ := wrt_self hg hk h3 hp hv B
      refine ⟨q1.trans P1, ?_, fun e he he4 m hn => ?_, fun i hi hik hh => ?_, ?_⟩
      · show hlP κ z.1 p (itP κ p z.1 (wrN s (bN S k)) z.2.2) = _
        rw [q2, P1, P2]
      · have h1 := nb_lt hk hn
        rw [q3 m (by omega) (nb_self hg hk he4 hn)]
        exact P3' e he he4 m hn
      · rw [q3 i hi hik]
        exact P4' i hi hik hh
      · show wrN s (bN S k) = _
        rw [if_neg hdL, ← td_bit hg hs hr hk]
        exact (bN_of eT).symm
  · have hd4 : d < 4 := by omega
    have h4L : (4 ∈ d :: L) ↔ (4 ∈ L) := by
      rw [List.mem_cons]
      exact ⟨fun hh => hh.resolve_left (fun e => h4 e.symm), Or.inr⟩
    have P5' : z.2.1 = if 4 ∈ L then bN S k else bN (shI (whI r c s) (tdI (r * c) s S) S) k := by
      rw [P5]
      by_cases e : 4 ∈ L
      · rw [if_pos e, if_pos (h4L.mpr e)]
      · rw [if_neg e, if_neg (fun hh => e (h4L.mp hh))]
    have P3' : ∀ d, d ∈ L → d < 4 → ∀ m, nbO r c k d = some m → bt B m = bt S m := fun d hd => P3 d (List.mem_cons_of_mem _ hd)
    unfold mcr
    rw [show drO r c k d = nbO r c k d from if_pos hd4, tau_d hd4]
    cases hn : nbO r c k d with
    | none =>
      rw [wD_none, show tyO c none = -1 from rfl, isW_none, if_neg (by decide)]
      refine ⟨P1, P2, P3', fun i hi hik hh => P4 i hi hik (fun e he he4 => ?_), P5'⟩
      rcases List.mem_cons.mp he with rfl | he
      · rw [hn]; exact fun e => by cases e
      · exact hh e he he4
    | some m =>
      have h1 := nb_lt hk hn
      have hmk := nb_self hg hk hd4 hn
      have hbw := wh_bit hg hs hr (i := m) (by omega)
      rw [decide_eq_true h1, Bool.true_and] at hbw
      have eT := sh_bit (wh := whI r c s) (td := tdI (r * c) s S) (S := S) (i := m) (by omega)
      have hBS : bt B m = bt S m := P3 d List.mem_cons_self hd4 m hn
      rw [wD_some, show tyO c (some m) = nI (tyN c m) from rfl, ← hbw]
      cases hw : bt (whI r c s) m with
      | false =>
        rw [if_neg (by decide), if_neg (by decide)]
        rw [hw, if_neg (by decide)] at eT
        refine ⟨P1, P2, P3', fun i hi hik hh => ?_, P5'⟩
        by_cases e : i = m
        · rw [e, eT, hBS]
        · refine P4 i hi hik (fun e' he he4 => ?_)
          rcases List.mem_cons.mp he with rfl | he
          · rw [hn]; exact fun e2 => e (Option.some.inj e2).symm
          · exact hh e' he he4
      | true =>
        rw [if_pos rfl, if_pos rfl, if_neg h4, td_bit hg hs hr h1]
        rw [hw, if_pos rfl] at eT
        have hv : wrN s (bN S m) < 2 := by rw [← td_bit hg hs hr h1]; exact bN_2 _ _
        obtain ⟨q1, q2, q3⟩ := wrt_nb hg hk h3 hp hd4 hn hv B
        obtain ⟨_, hold⟩ := pat_put hg hk hd4 hn hv B
        rw [P1] at hold q1 q2
        rw [← P2] at q2
        have hbs : bN B m = bN S m := bN_of hBS
        rw [hbs] at hold q1 q2
        have hmc : mcB κ p d s z.1 z.2.2 = ((if wrN s (bN S m) = bN S m then z.1 else z.1 ^^^ 2 ^ d), (if wrN s (bN S m) = bN S m then z.2.2 else if κ = 2 then trP (32 * d + 16 * wrN s (bN S m) + 2 * rmB (z.1 ^^^ 2 ^ d) d) p z.2.2 else z.2.2)) := by
          unfold mcB
          rw [hold]
          by_cases e : wrN s (bN S m) = bN S m
          · rw [if_pos e, if_pos e, if_pos e]
          · rw [if_neg e, if_neg e, if_neg e]
        refine ⟨?_, ?_, fun e he he4 m' hn' => ?_, fun i hi hik hh => ?_, P5'⟩
        · show _ = (mcB κ p d s z.1 z.2.2).1
          rw [hmc, q1]
        · show hlP κ (mcB κ p d s z.1 z.2.2).1 p (mcB κ p d s z.1 z.2.2).2 = _
          rw [hmc, q2]
        · have h1' := nb_lt hk hn'
          rw [q3 m' (by omega) (nb_self hg hk he4 hn'), if_neg]
          · exact P3' e he he4 m' hn'
          · rintro rfl
            exact hdL (nb_apart hg hk hd4 he4 hn hn' ▸ he)
        · rw [q3 i hi hik]
          by_cases e : i = m
          · rw [if_pos e, e, eT, ← td_bit hg hs hr h1, bt_d]
          · rw [if_neg e]
            refine P4 i hi hik (fun e' he he4 => ?_)
            rcases List.mem_cons.mp he with rfl | he
            · rw [hn]; exact fun e2 => e (Option.some.inj e2).symm
            · exact hh e' he he4
/-- between two steps of the run -/
def RB (r c k : Nat) (B S : Int32) (z : Nat × Nat × Int32) : Prop := patN r c B k = z.1 ∧ z.2.2 = nI (bN B k) ∧ (∀ i, i < 32 → i ≠ k → bt B i = bt S i) ∧ z.2.1 = bN S k ∧ ∀ i, r * c ≤ i → bt S i = false
theorem rb_step (hg : GeoOk r c f h t) {k κ p : Nat} (hk : k < r * c) (h3 : κ < 3) (hp : p < ptsN κ) {s S B : Int32} (hs : sgnB s = true) (hr : ¬ s = 114) {z : Nat × Nat × Int32} (hR : RB r c k B S z) :
    RB r c k (wAl r c k κ p (whI r c s) (tdI (r * c) s S) (plI (whI r c s) (nrI r c k) (tdI (r * c) s S) B) (r * c)) (shI (whI r c s) (tdI (r * c) s S) S) (wSt κ p (tauG r c k) s z) := by
  have h25 : r * c ≤ 25 := Nat.mul_le_mul hg.1.2 hg.2.1.2
  obtain ⟨P1, P2, P3, P4, P5⟩ := hR
  have h0 : MI r c k (plI (whI r c s) (nrI r c k) (tdI (r * c) s S) B) S (shI (whI r c s) (tdI (r * c) s S) S) z [0, 3, 4, 1, 2] := by
    have hn : ∀ d m, d < 4 → nbO r c k d = some m → bt (plI (whI r c s) (nrI r c k) (tdI (r * c) s S) B) m = bt B m := by
      intro d m hd hn
      have h1 := nb_lt hk hn
      rw [pl_bit (by omega), b_nr hk h25 (by omega), if_neg]
      have : nearB r c k m = true := by
        unfold nearB
        rcases (show d = 0 ∨ d = 1 ∨ d = 2 ∨ d = 3 by omega) with rfl | rfl | rfl | rfl <;> rw [decide_eq_true hn] <;> simp
      rw [this]
      simp
    have hkk : bt (plI (whI r c s) (nrI r c k) (tdI (r * c) s S) B) k = bt B k := by
      rw [pl_bit (by omega), nrI_k (by omega), if_neg]
      simp
    refine ⟨?_, ?_, fun d _ hd m hm => ?_, fun i hi hik hh => ?_, ?_⟩
    · rw [← P1]
      exact pat_congr (fun d m hd hm => bN_of (hn d m hd hm))
    · rw [P2]
      exact congrArg nI (bN_of hkk.symm)
    · have h1 := nb_lt hk hm
      rw [hn d m hd hm]
      exact P3 m (by omega) (nb_self hg hk hd hm)
    · rw [pl_bit hi, sh_bit hi, P3 i hi hik, b_nr hk h25 hi]
      have : nearB r c k i = false := by
        unfold nearB
        rw [decide_eq_false hik, decide_eq_false (hh 0 (by simp) (by omega)), decide_eq_false (hh 1 (by simp) (by omega)), decide_eq_false (hh 2 (by simp) (by omega)), decide_eq_false (hh 3 (by simp) (by omega))]
        rfl
      rw [this]
      cases bt (whI r c s) i <;> rfl
    · rw [if_pos (by simp)]
      exact P4
  have h1 := mi_step hg hk h3 hp hs hr (d := 0) (by omega) (by simp) h0
  have h2 := mi_step hg hk h3 hp hs hr (d := 3) (by omega) (by simp) h1
  have h4 := mi_step hg hk h3 hp hs hr (d := 4) (by omega) (by simp) h2
  have h5 := mi_step hg hk h3 hp hs hr (d := 1) (by omega) (by simp) h4
  have h6 := mi_step hg hk h3 hp hs hr (d := 2) (by omega) (by simp) h5
  rw [wAl_near hg hk]
  obtain ⟨q1, q2, _, q4, q5⟩ := h6
  refine ⟨q1, q2, fun i hi hik => q4 i hi hik (fun d hd => by cases hd), ?_, fun i hi => ?_⟩
  · rw [if_neg (by simp)] at q5
    exact q5
  · by_cases hi32 : i < 32
    · rw [sh_bit hi32, wh_bit hg hs hr hi32, decide_eq_false (by omega), Bool.false_and, if_neg (by decide)]
      exact P5 i hi
    · exact b_big (by omega)
end GEOB
end MATHB
