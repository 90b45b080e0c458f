section BENCH
variable {pgC : Nat → Int32} {pgL : Int32} {stC : Nat → Int32} {stL : Int32} {PA : Nat → Nat → Int32} {PS : Nat → Int32} {BA : Nat → Nat → Int32} {BS : Nat → Int32} {u : List Cl}
def kI (κ : Nat) : Int32 := if κ = 0 then 0 else if κ = 1 then 1 else if κ = 2 then 2 else -1
def ptsN (κ : Nat) : Nat := if κ = 0 then 32 else if κ = 1 then 32 else if κ = 2 then 128 else 0
theorem ptsN_le (κ : Nat) : ptsN κ ≤ 128 := by unfold ptsN; (repeat' split) <;> omega
theorem kI_0 (κ : Nat) : kI κ = 0 ↔ κ = 0 := by
  unfold kI
  constructor
  · intro h; split at h
    · assumption
    · split at h
      · exact absurd h (by decide)
      · split at h <;> exact absurd h (by decide)
  · intro h; rw [if_pos h]
theorem kI_1 (κ : Nat) : kI κ = 1 ↔ κ = 1 := by
  unfold kI
  constructor
  · intro h; split at h
    · exact absurd h (by decide)
    · split at h
      · assumption
      · split at h <;> exact absurd h (by decide)
  · intro h; subst h; rfl
theorem kI_2 (κ : Nat) : kI κ = 2 ↔ κ = 2 := by
  unfold kI
  constructor
  · intro h; split at h
    · exact absurd h (by decide)
    · split at h
      · exact absurd h (by decide)
      · split at h
        · assumption
        · exact absurd h (by decide)
  · intro h; subst h; rfl
theorem parts_kI (κ : Nat) : partsI (kI κ) = nI (ptsN κ) := by
  unfold ptsN
  split
  · rename_i h; subst h; rfl
  · split
    · rename_i h; subst h; rfl
    · split
      · rename_i h; subst h; rfl
      · rename_i h0 h1 h2
        unfold kI
        rw [if_neg h0, if_neg h1, if_neg h2]
        rfl
def wrF (s h : Int32) : Int32 := if s = 122 then 0 else if s = 111 then 1 else 1 - h
def wrN (s : Int32) (h : Nat) : Nat := if s = 122 then 0 else if s = 111 then 1 else 1 - h
theorem wrN_2 (s : Int32) (h : Nat) : wrN s h < 2 := by unfold wrN; (repeat' split) <;> omega
theorem wrF_nI (s : Int32) {h : Nat} (h2 : h < 2) : wrF s (nI h) = nI (wrN s h) := by
  unfold wrF wrN
  split
  · rfl
  · split
    · rfl
    · rw [show (1 : Int32) = nI 1 from rfl, pk_sub (by omega)]
def isW (τ s : Int32) : Bool := !decide (τ = -1) && (decide (figF s = 0) || decide (τ = s - 48))
def itsF (κ k pat v : Nat) (f : Nat → Int32) : Nat → Int32 := fun p => if p < k ∧ ¬ (κ = 1 ∧ p = 2 * pat + 1 - v) then nI v else f p
def trnF (q : Nat) (f : Nat → Int32) : Nat → Int32 := fun p => if p = q ∧ f q = 0 then 1 else if p = q + 1 ∧ f (q + 1) = 1 then 0 else f p
def hldF (κ pat : Nat) (f : Nat → Int32) : Nat → Int32 := fun p => if κ = 0 ∧ p = 2 * pat then 0 else if κ = 0 ∧ p = 2 * pat + 1 then 1 else f p
def rmB (pat k : Nat) : Nat := pat % 2 ^ k + (pat / 2 ^ (k + 1)) * 2 ^ k
def besB (κ k : Nat) (s : Int32) (pat : Nat) (f : Nat → Int32) : Nat × (Nat → Int32) := if wrN s (pat / 2 ^ k % 2) = pat / 2 ^ k % 2 then (pat, f) else (pat ^^^ 2 ^ k, if κ = 2 then trnF (32 * k + 16 * wrN s (pat / 2 ^ k % 2) + 2 * rmB (pat ^^^ 2 ^ k) k) f else f)
def rdM (k : Nat) (v : Int32) (B M : Nat → Int32) : Nat → Int32 := fun p => if p < k ∧ ¬ B p = v then M p + 1 else M p
def rdF (k : Nat) (v x : Int32) (B M F : Nat → Int32) : Nat → Int32 := fun p => if p < k ∧ ¬ B p = v ∧ M p = 0 then x else F p
def rdR (k : Nat) (v : Int32) (B M R : Nat → Int32) : Nat → Int32 := fun p => if p < k ∧ ¬ B p = v ∧ M p = 0 then B p else R p
theorem upd_id {f : Nat → Int32} {k : Nat} {v : Int32} (h : f k = v) : upd f k v = f := by
  funext j
  unfold upd
  split
  · rename_i e; rw [e, h]
  · rfl
theorem va_up_id {α : Type} {f : Nat → α} {k : Nat} {v : α} (h : f k = v) : va_up f k v = f := by
  funext j
  unfold va_up
  split
  · rename_i e; rw [e, h]
  · rfl
theorem s_written (w0 : Wd) (s h : Int32) : CC 0 mX0_written 0 0 [.int s, .int h] w0 (Rt (wrF s h) w0) := by
  refine CC.of okX0_written.1 (Nat.le_of_ble_eq_true rfl) (fun g M => ?_)
  show g 0 0 0 [(0, .int s), (1, .int h)] [] w0
  refine M.blk (is := [(.iload_n 0, 0, 0, 0), (.bipush 122, 0, 0, 122)]) (pc1 := 3) (lo1 := [(0, .int s), (1, .int h)]) (st1 := [.int 122, .int s]) (w1 := w0) (by decide +kernel) rfl ?_
  refine M.icmp_ne (off := 7) (tgt := 10) (nx := 6) (by decide +kernel) (fun z3 => ?_) (fun z3 => ?_)
  · refine M.blk (is := [(.iload_n 0, 0, 0, 0), (.bipush 111, 0, 0, 111)]) (pc1 := 13) (lo1 := [(0, .int s), (1, .int h)]) (st1 := [.int 111, .int s]) (w1 := w0) (by decide +kernel) rfl ?_
    refine M.icmp_ne (off := 7) (tgt := 20) (nx := 16) (by decide +kernel) (fun z13 => ?_) (fun z13 => ?_)
    · refine M.blk (is := [(.iconst 1, 0, 0, 1), (.iload_n 1, 1, 0, 0), (.isub, 0, 0, 0)]) (pc1 := 23) (lo1 := [(0, .int s), (1, .int h)]) (st1 := [.int (1 - h)]) (w1 := w0) (by decide +kernel) rfl ?_
      exact M.reti (nx := 24) (by decide +kernel) ⟨by simp [wrF, *], rfl⟩
    · refine M.blk (is := [(.iconst 1, 0, 0, 1), (.goto 6, 23, 0, 0)]) (pc1 := 23) (lo1 := [(0, .int s), (1, .int h)]) (st1 := [.int 1]) (w1 := w0) (by decide +kernel) rfl ?_
      exact M.reti (nx := 24) (by decide +kernel) ⟨by simp [wrF, *], rfl⟩
  · refine M.blk (is := [(.iconst 0, 0, 0, 0), (.goto 16, 23, 0, 0)]) (pc1 := 23) (lo1 := [(0, .int s), (1, .int h)]) (st1 := [.int 0]) (w1 := w0) (by decide +kernel) rfl ?_
    exact M.reti (nx := 24) (by decide +kernel) ⟨by simp [wrF, *], rfl⟩
theorem x_isWritten {d : Nat} (hd : d < 5) (s : Int32) : CC 1 mX0_isWritten 0 0 [.ref 113, .int (nI d), .int s] (WX pgC pgL stC stL PA PS BA BS u) (Rt (b2i (isW (BA 4 d) s)) (WX pgC pgL stC stL PA PS BA BS u)) := by
  refine CC.of okX0_isWritten.1 (Nat.le_of_ble_eq_true rfl) (fun g M => ?_)
  show g 0 0 0 [(0, .ref 113), (1, .int (nI d)), (2, .int s)] [] (WX pgC pgL stC stL PA PS BA BS u)
  refine M.blk (is := [(.iload_n 1, 1, 0, 0)]) (pc1 := 1) (lo1 := [(0, .ref 113), (1, .int (nI d)), (2, .int s)]) (st1 := [.int (nI d)]) (w1 := (WX pgC pgL stC stL PA PS BA BS u)) (by decide +kernel) rfl ?_
  refine M.if_lt (off := 22) (tgt := 23) (nx := 4) (by decide +kernel) (fun z1 => by exfalso; exact nI_pos (by omega) z1) (fun z1 => ?_)
  refine M.blk (is := [(.iload_n 1, 1, 0, 0), (.aload_n 0, 0, 0, 0), (.getfield 24, 0, 4, 0)]) (pc1 := 9) (lo1 := [(0, .ref 113), (1, .int (nI d)), (2, .int s)]) (st1 := [.ref 118, .int (nI d)]) (w1 := (WX pgC pgL stC stL PA PS BA BS u)) (by decide +kernel) rfl ?_
  refine M.alen (n := 5) (f := BA 4) (b := false) (nx := 10) (by decide +kernel) rfl ?_
  show g 0 0 10 [(0, .ref 113), (1, .int (nI d)), (2, .int s)] [.int 5, .int (nI d)] (WX pgC pgL stC stL PA PS BA BS u)
  refine M.icmp_ge (off := 13) (tgt := 23) (nx := 13) (by decide +kernel) (fun z10 => by exfalso; exact nI_ge (a := d) (b := 5) hd (by decide) z10) (fun z10 => ?_)
  refine M.blk (is := [(.aload_n 0, 0, 0, 0), (.getfield 24, 0, 4, 0), (.iload_n 1, 1, 0, 0)]) (pc1 := 18) (lo1 := [(0, .ref 113), (1, .int (nI d)), (2, .int s)]) (st1 := [.int (nI d), .ref 118]) (w1 := (WX pgC pgL stC stL PA PS BA BS u)) (by decide +kernel) rfl ?_
  refine M.ald (n := 5) (f := BA 4) (j := d) (nx := 19) (by decide +kernel) rfl rfl (by omega) (by decide) ?_
  refine M.blk (is := [(.iconst (-1), 0, 0, (-1))]) (pc1 := 20) (lo1 := [(0, .ref 113), (1, .int (nI d)), (2, .int s)]) (st1 := [.int (-1), .int ((BA 4) d)]) (w1 := (WX pgC pgL stC stL PA PS BA BS u)) (by decide +kernel) rfl ?_
  refine M.icmp_ne (off := 5) (tgt := 25) (nx := 23) (by decide +kernel) (fun z20 => ?_) (fun z20 => ?_)
  · refine M.blk (is := [(.iload_n 2, 2, 0, 0)]) (pc1 := 26) (lo1 := [(0, .ref 113), (1, .int (nI d)), (2, .int s)]) (st1 := [.int s]) (w1 := (WX pgC pgL stC stL PA PS BA BS u)) (by decide +kernel) rfl ?_
    refine M.callSi (as := [.int s]) (st := []) (nx := 29) okX3_isFigure lkX0_109 (s_isFigure (WX pgC pgL stC stL PA PS BA BS u) s) (by decide +kernel) (by decide) rfl (Nat.le_of_ble_eq_true rfl) ?_
    refine M.if_eq (off := 16) (tgt := 45) (nx := 32) (by decide +kernel) (fun z29 => ?_) (fun z29 => ?_)
    · refine M.blk (is := [(.iconst 1, 0, 0, 1), (.goto 4, 50, 0, 0)]) (pc1 := 50) (lo1 := [(0, .ref 113), (1, .int (nI d)), (2, .int s)]) (st1 := [.int 1]) (w1 := (WX pgC pgL stC stL PA PS BA BS u)) (by decide +kernel) rfl ?_
      exact M.retz (nx := 51) (by decide +kernel) (by decide) ⟨by simp [isW, b2i, *], rfl⟩
    · refine M.blk (is := [(.aload_n 0, 0, 0, 0), (.getfield 24, 0, 4, 0), (.iload_n 1, 1, 0, 0)]) (pc1 := 37) (lo1 := [(0, .ref 113), (1, .int (nI d)), (2, .int s)]) (st1 := [.int (nI d), .ref 118]) (w1 := (WX pgC pgL stC stL PA PS BA BS u)) (by decide +kernel) rfl ?_
      refine M.ald (n := 5) (f := BA 4) (j := d) (nx := 38) (by decide +kernel) rfl rfl (by omega) (by decide) ?_
      refine M.blk (is := [(.iload_n 2, 2, 0, 0), (.bipush 48, 0, 0, 48), (.isub, 0, 0, 0)]) (pc1 := 42) (lo1 := [(0, .ref 113), (1, .int (nI d)), (2, .int s)]) (st1 := [.int (s - 48), .int ((BA 4) d)]) (w1 := (WX pgC pgL stC stL PA PS BA BS u)) (by decide +kernel) rfl ?_
      refine M.icmp_ne (off := 7) (tgt := 49) (nx := 45) (by decide +kernel) (fun z42 => ?_) (fun z42 => ?_)
      · refine M.blk (is := [(.iconst 0, 0, 0, 0)]) (pc1 := 50) (lo1 := [(0, .ref 113), (1, .int (nI d)), (2, .int s)]) (st1 := [.int 0]) (w1 := (WX pgC pgL stC stL PA PS BA BS u)) (by decide +kernel) rfl ?_
        exact M.retz (nx := 51) (by decide +kernel) (by decide) ⟨by simp [isW, b2i, *], rfl⟩
      · refine M.blk (is := [(.iconst 1, 0, 0, 1), (.goto 4, 50, 0, 0)]) (pc1 := 50) (lo1 := [(0, .ref 113), (1, .int (nI d)), (2, .int s)]) (st1 := [.int 1]) (w1 := (WX pgC pgL stC stL PA PS BA BS u)) (by decide +kernel) rfl ?_
        exact M.retz (nx := 51) (by decide +kernel) (by decide) ⟨by unfold isW; rw [decide_eq_false z20, decide_eq_false z29, decide_eq_true z42]; rfl, rfl⟩
  · refine M.blk (is := [(.iconst 0, 0, 0, 0)]) (pc1 := 24) (lo1 := [(0, .ref 113), (1, .int (nI d)), (2, .int s)]) (st1 := [.int 0]) (w1 := (WX pgC pgL stC stL PA PS BA BS u)) (by decide +kernel) rfl ?_
    exact M.retz (nx := 25) (by decide +kernel) (by decide) ⟨by simp [isW, b2i, *], rfl⟩
theorem its_0 {κ pat v : Nat} {f : Nat → Int32} : itsF κ 0 pat v f = f := by funext p; unfold itsF; rw [if_neg (by omega)]
theorem its_skip {κ k pat v : Nat} {f : Nat → Int32} (h : κ = 1 ∧ k = 2 * pat + 1 - v) : itsF κ k pat v f = itsF κ (k + 1) pat v f := by
  funext p
  unfold itsF
  by_cases hp : p = k
  · subst hp
    rw [if_neg (by omega), if_neg (fun e => e.2 h)]
  · by_cases hq : p < k
    · simp only [hq, show p < k + 1 by omega]
    · rw [if_neg (fun e => hq e.1), if_neg (fun e => by omega)]
theorem its_put {κ k pat v : Nat} {f : Nat → Int32} (h : ¬ (κ = 1 ∧ k = 2 * pat + 1 - v)) : upd (itsF κ k pat v f) k (nI v) = itsF κ (k + 1) pat v f := by
  funext p
  by_cases hp : p = k
  · subst hp
    rw [pk_us]
    unfold itsF
    rw [if_pos ⟨by omega, h⟩]
  · rw [pk_un hp]
    unfold itsF
    by_cases hq : p < k
    · simp only [hq, show p < k + 1 by omega]
    · rw [if_neg (fun e => hq e.1), if_neg (fun e => by omega)]
theorem its_sp {κ pat v : Nat} {x y b : Int32} (h7 : x = kI κ) (h10 : y = nI pat) (hp : pat < 16) (hv : v < 2) (hb : b = if ¬ x = 1 then (-1 : Int32) else 2 * y + 1 - nI v) : ∀ k, k < 128 → (nI k = b ↔ (κ = 1 ∧ k = 2 * pat + 1 - v)) := by
  intro k hk
  have hx1 : x = 1 ↔ κ = 1 := by rw [h7]; exact kI_1 κ
  by_cases h1 : κ = 1
  · rw [if_neg (fun h => h (hx1.mpr h1)), h10, show (2 : Int32) = nI 2 from rfl, show (1 : Int32) = nI 1 from rfl, pk_mul, nI_add, pk_sub (by omega)] at hb
    rw [hb, nI_eq (by omega) (by omega)]
    constructor
    · intro e; exact ⟨h1, e⟩
    · intro e; exact e.2
  · rw [if_pos (fun h => h1 (hx1.mp h))] at hb
    rw [hb]
    constructor
    · intro e; exact absurd e (oI_ne (by omega))
    · intro e; exact absurd e.1 h1
theorem x_writeItself {κ pat sh : Nat} (h7 : BS 7 = kI κ) (h8 : BS 8 = nI (ptsN κ)) (h10 : BS 10 = nI pat) (hp : pat < 16) (h11 : BS 11 = nI sh) (hs2 : sh < 2) (s : Int32) : CC 1 mX0_writeItself 0 0 [.ref 113, .int s] (WX pgC pgL stC stL PA PS BA BS u) (Rv (WX pgC pgL stC stL PA PS (va_up BA 0 (itsF κ (ptsN κ) pat (wrN s sh) (BA 0))) (upd BS 11 (nI (wrN s sh))) u)) := by
  have hv2 := wrN_2 s sh
  have hP := ptsN_le κ
  refine CC.of okX0_writeItself.1 (Nat.le_of_ble_eq_true rfl) (fun g M => ?_)
  show g 0 0 0 [(0, .ref 113), (1, .int s)] [] (WX pgC pgL stC stL PA PS BA BS u)
  refine M.blk (is := [(.aload_n 0, 0, 0, 0), (.iload_n 1, 1, 0, 0), (.aload_n 0, 0, 0, 0), (.getfield 83, 0, 11, 0)]) (pc1 := 6) (lo1 := [(0, .ref 113), (1, .int s)]) (st1 := [.int (BS 11), .int s, .ref 113]) (w1 := (WX pgC pgL stC stL PA PS BA BS u)) (by decide +kernel) rfl ?_
  refine M.callSi (as := [.int s, .int (BS 11)]) (st := [.ref 113]) (nx := 9) okX0_written lkX0_113 (s_written (WX pgC pgL stC stL PA PS BA BS u) s (BS 11)) (by decide +kernel) (by decide) rfl (Nat.le_of_ble_eq_true rfl) ?_
  rw [h11, wrF_nI s hs2]
  refine M.blk (is := [(.putfield 83, 0, 11, 0), (.aload_n 0, 0, 0, 0), (.getfield 35, 0, 7, 0), (.iconst 1, 0, 0, 1)]) (pc1 := 17) (lo1 := [(0, .ref 113), (1, .int s)]) (st1 := [.int 1, .int (BS 7)]) (w1 := (WX pgC pgL stC stL PA PS BA (upd BS 11 (nI (wrN s sh))) u)) (by decide +kernel) rfl ?_
  have j17 : ∀ b17 : Int32, b17 = (if ¬ BS 7 = 1 then ((-1) : Int32) else ((2 * (BS 10)) + 1) - (nI (wrN s sh))) → g 0 0 37 [(0, .ref 113), (1, .int s)] [.int b17] (WX pgC pgL stC stL PA PS BA (upd BS 11 (nI (wrN s sh))) u) := by
    intro b17 hb17
    refine M.blk (is := [(.istore_n 2, 2, 0, 0)]) (pc1 := 38) (lo1 := [(2, .int b17), (0, .ref 113), (1, .int s)]) (st1 := []) (w1 := (WX pgC pgL stC stL PA PS BA (upd BS 11 (nI (wrN s sh))) u)) (by decide +kernel) rfl ?_
    have hsp : ∀ k, k < 128 → (nI k = b17 ↔ (κ = 1 ∧ k = 2 * pat + 1 - wrN s sh)) := its_sp h7 h10 hp hv2 hb17
    have lp : ∀ m k, k + m = ptsN κ → g 0 0 40 [(0, .ref 113), (2, .int b17), (3, .int (nI k))] [] (WX pgC pgL stC stL PA PS (va_up BA 0 (itsF κ k pat (wrN s sh) (BA 0))) (upd BS 11 (nI (wrN s sh))) u) := by
      intro m
      induction m with
      | zero =>
        intro k hk
        have ek : ptsN κ = k := by omega
        rw [← ek]
        refine M.blk (is := [(.iload_n 3, 3, 0, 0), (.aload_n 0, 0, 0, 0), (.getfield 70, 0, 8, 0)]) (pc1 := 45) (lo1 := [(0, .ref 113), (2, .int b17), (3, .int (nI (ptsN κ)))]) (st1 := [.int (BS 8), .int (nI (ptsN κ))]) (w1 := (WX pgC pgL stC stL PA PS (va_up BA 0 (itsF κ (ptsN κ) pat (wrN s sh) (BA 0))) (upd BS 11 (nI (wrN s sh))) u)) (by decide +kernel) rfl ?_
        refine M.icmp_ge (off := 24) (tgt := 69) (nx := 48) (by decide +kernel) (fun z45 => ?_) (fun z45 => by exfalso; exact z45 (by rw [h8]; exact nI_le (Nat.le_refl _) (by omega)))
        exact M.retv (nx := 70) (by decide +kernel) ⟨rfl, rfl⟩
      | succ m ih =>
        intro k hk
        refine M.blk (is := [(.iload_n 3, 3, 0, 0), (.aload_n 0, 0, 0, 0), (.getfield 70, 0, 8, 0)]) (pc1 := 45) (lo1 := [(0, .ref 113), (2, .int b17), (3, .int (nI k))]) (st1 := [.int (BS 8), .int (nI k)]) (w1 := (WX pgC pgL stC stL PA PS (va_up BA 0 (itsF κ k pat (wrN s sh) (BA 0))) (upd BS 11 (nI (wrN s sh))) u)) (by decide +kernel) rfl ?_
        refine M.icmp_ge (off := 24) (tgt := 69) (nx := 48) (by decide +kernel) (fun z45 => by exfalso; rw [h8] at z45; exact nI_ge (show k < ptsN κ by omega) (by omega) z45) (fun z45 => ?_)
        refine M.blk (is := [(.iload_n 3, 3, 0, 0), (.iload_n 2, 2, 0, 0)]) (pc1 := 50) (lo1 := [(0, .ref 113), (2, .int b17), (3, .int (nI k))]) (st1 := [.int b17, .int (nI k)]) (w1 := (WX pgC pgL stC stL PA PS (va_up BA 0 (itsF κ k pat (wrN s sh) (BA 0))) (upd BS 11 (nI (wrN s sh))) u)) (by decide +kernel) rfl ?_
        refine M.icmp_eq (off := 13) (tgt := 63) (nx := 53) (by decide +kernel) (fun z50 => ?_) (fun z50 => ?_)
        · refine M.blk (is := [(.iinc 3 1, 3, 0, 1), (.goto (-26), 40, 0, 0)]) (pc1 := 40) (lo1 := [(3, .int ((nI k) + 1)), (0, .ref 113), (2, .int b17)]) (st1 := []) (w1 := (WX pgC pgL stC stL PA PS (va_up BA 0 (itsF κ k pat (wrN s sh) (BA 0))) (upd BS 11 (nI (wrN s sh))) u)) (by decide +kernel) rfl ?_
          refine M.lsub [1, 2, 0] (lo1 := [(0, .ref 113), (2, .int b17), (3, .int ((nI k) + 1))]) rfl ?_
          rw [nI_1, its_skip ((hsp k (by omega)).mp z50)]
          exact ih (k + 1) (by omega)
        · refine M.blk (is := [(.aload_n 0, 0, 0, 0), (.getfield 9, 0, 0, 0), (.iload_n 3, 3, 0, 0), (.aload_n 0, 0, 0, 0), (.getfield 83, 0, 11, 0)]) (pc1 := 62) (lo1 := [(0, .ref 113), (2, .int b17), (3, .int (nI k))]) (st1 := [.int (nI (wrN s sh)), .int (nI k), .ref 114]) (w1 := (WX pgC pgL stC stL PA PS (va_up BA 0 (itsF κ k pat (wrN s sh) (BA 0))) (upd BS 11 (nI (wrN s sh))) u)) (by decide +kernel) rfl ?_
          refine M.ast (n := 128) (f := itsF κ k pat (wrN s sh) (BA 0)) (j := k) (nx := 63) (by decide +kernel) rfl rfl (by omega) (by decide) ?_
          show g 0 0 63 [(0, .ref 113), (2, .int b17), (3, .int (nI k))] [] (WX pgC pgL stC stL PA PS (va_up BA 0 (upd (itsF κ k pat (wrN s sh) (BA 0)) k (nI (wrN s sh)))) (upd BS 11 (nI (wrN s sh))) u)
          refine M.blk (is := [(.iinc 3 1, 3, 0, 1), (.goto (-26), 40, 0, 0)]) (pc1 := 40) (lo1 := [(3, .int ((nI k) + 1)), (0, .ref 113), (2, .int b17)]) (st1 := []) (w1 := (WX pgC pgL stC stL PA PS (va_up BA 0 (upd (itsF κ k pat (wrN s sh) (BA 0)) k (nI (wrN s sh)))) (upd BS 11 (nI (wrN s sh))) u)) (by decide +kernel) rfl ?_
          refine M.lsub [1, 2, 0] (lo1 := [(0, .ref 113), (2, .int b17), (3, .int ((nI k) + 1))]) rfl ?_
          rw [nI_1, its_put (fun e => z50 ((hsp k (by omega)).mpr e))]
          exact ih (k + 1) (by omega)
    refine M.blk (is := [(.iconst 0, 0, 0, 0), (.istore_n 3, 3, 0, 0)]) (pc1 := 40) (lo1 := [(3, .int 0), (2, .int b17), (0, .ref 113), (1, .int s)]) (st1 := []) (w1 := (WX pgC pgL stC stL PA PS BA (upd BS 11 (nI (wrN s sh))) u)) (by decide +kernel) rfl ?_
    refine M.lsub [2, 1, 0] (lo1 := [(0, .ref 113), (2, .int b17), (3, .int 0)]) rfl ?_
    have e0 := lp (ptsN κ) 0 (by omega)
    rw [its_0] at e0
    rw [va_up_id (f := BA) (k := 0) rfl] at e0
    exact e0
  refine M.icmp_ne (off := 19) (tgt := 36) (nx := 20) (by decide +kernel) (fun z17 => ?_) (fun z17 => ?_)
  · refine M.blk (is := [(.iconst (-1), 0, 0, (-1))]) (pc1 := 37) (lo1 := [(0, .ref 113), (1, .int s)]) (st1 := [.int (-1)]) (w1 := (WX pgC pgL stC stL PA PS BA (upd BS 11 (nI (wrN s sh))) u)) (by decide +kernel) rfl ?_
    exact j17 _ (if_pos z17).symm
  · refine M.blk (is := [(.iconst 2, 0, 0, 2), (.aload_n 0, 0, 0, 0), (.getfield 80, 0, 10, 0), (.imul, 0, 0, 0), (.iconst 1, 0, 0, 1), (.iadd, 0, 0, 0), (.aload_n 0, 0, 0, 0), (.getfield 83, 0, 11, 0), (.isub, 0, 0, 0), (.goto 4, 37, 0, 0)]) (pc1 := 37) (lo1 := [(0, .ref 113), (1, .int s)]) (st1 := [.int (((2 * (BS 10)) + 1) - (nI (wrN s sh)))]) (w1 := (WX pgC pgL stC stL PA PS BA (upd BS 11 (nI (wrN s sh))) u)) (by decide +kernel) rfl ?_
    exact j17 _ (if_neg (fun h => h z17)).symm
theorem nI_a0 (q : Nat) : nI q + 0 = nI q := by rw [show (0 : Int32) = nI 0 from rfl, nI_add]; rfl
theorem trn_tt {q : Nat} {f : Nat → Int32} (h1 : f q = 0) (h2 : upd f q 1 (q + 1) = 1) : trnF q f = upd (upd f q 1) (q + 1) 0 := by
  rw [pk_un (by omega)] at h2
  funext p
  unfold trnF
  by_cases e1 : p = q + 1
  · subst e1; rw [if_neg (by omega), if_pos ⟨rfl, h2⟩, pk_us]
  · rw [pk_un e1]
    by_cases e2 : p = q
    · subst e2; rw [if_pos ⟨rfl, h1⟩, pk_us]
    · rw [pk_un e2, if_neg (fun h => e2 h.1), if_neg (fun h => e1 h.1)]
theorem trn_tf {q : Nat} {f : Nat → Int32} (h1 : f q = 0) (h2 : ¬ upd f q 1 (q + 1) = 1) : trnF q f = upd f q 1 := by
  rw [pk_un (by omega)] at h2
  funext p
  unfold trnF
  by_cases e2 : p = q
  · subst e2; rw [if_pos ⟨rfl, h1⟩, pk_us]
  · rw [pk_un e2, if_neg (fun h => e2 h.1), if_neg (fun h => h2 h.2)]
theorem trn_ft {q : Nat} {f : Nat → Int32} (h1 : ¬ f q = 0) (h2 : f (q + 1) = 1) : trnF q f = upd f (q + 1) 0 := by
  funext p
  unfold trnF
  rw [if_neg (fun h => h1 h.2)]
  by_cases e1 : p = q + 1
  · subst e1; rw [if_pos ⟨rfl, h2⟩, pk_us]
  · rw [pk_un e1, if_neg (fun h => e1 h.1)]
theorem trn_ff {q : Nat} {f : Nat → Int32} (h1 : ¬ f q = 0) (h2 : ¬ f (q + 1) = 1) : trnF q f = f := by
  funext p
  unfold trnF
  rw [if_neg (fun h => h1 h.2), if_neg (fun h => h2 h.2)]
theorem x_turn {q P : Nat} (h8 : BS 8 = nI P) (hq : q + 1 < P) (hP : P ≤ 128) : CC 0 mX0_turn 0 0 [.ref 113, .int (nI q)] (WX pgC pgL stC stL PA PS BA BS u) (Rv (WX pgC pgL stC stL PA PS (va_up BA 0 (trnF q (BA 0))) BS u)) := by
  refine CC.of okX0_turn.1 (Nat.le_of_ble_eq_true rfl) (fun g M => ?_)
  show g 0 0 0 [(0, .ref 113), (1, .int (nI q))] [] (WX pgC pgL stC stL PA PS BA BS u)
  refine M.blk (is := [(.iconst 0, 0, 0, 0), (.istore_n 2, 2, 0, 0), (.iload_n 2, 2, 0, 0), (.iconst 1, 0, 0, 1)]) (pc1 := 4) (lo1 := [(2, .int 0), (0, .ref 113), (1, .int (nI q))]) (st1 := [.int 1, .int 0]) (w1 := (WX pgC pgL stC stL PA PS BA BS u)) (by decide +kernel) rfl ?_
  refine M.icmp_gt (off := 46) (tgt := 50) (nx := 7) (by decide +kernel) (fun h => absurd h (by decide)) (fun _ => ?_)
  refine M.blk (is := [(.iload_n 1, 1, 0, 0)]) (pc1 := 8) (lo1 := [(2, .int 0), (0, .ref 113), (1, .int (nI q))]) (st1 := [.int (nI q)]) (w1 := (WX pgC pgL stC stL PA PS BA BS u)) (by decide +kernel) rfl ?_
  refine M.if_lt (off := 36) (tgt := 44) (nx := 11) (by decide +kernel) (fun z8 => by exfalso; exact nI_pos (by omega) z8) (fun z8 => ?_)
  refine M.blk (is := [(.iload_n 1, 1, 0, 0), (.iload_n 2, 2, 0, 0), (.iadd, 0, 0, 0), (.aload_n 0, 0, 0, 0), (.getfield 70, 0, 8, 0)]) (pc1 := 18) (lo1 := [(2, .int 0), (0, .ref 113), (1, .int (nI q))]) (st1 := [.int (BS 8), .int ((nI q) + 0)]) (w1 := (WX pgC pgL stC stL PA PS BA BS u)) (by decide +kernel) rfl ?_
  refine M.icmp_ge (off := 26) (tgt := 44) (nx := 21) (by decide +kernel) (fun z18 => by exfalso; rw [h8, nI_a0] at z18; exact nI_ge (by omega) (by omega) z18) (fun z18 => ?_)
  refine M.blk (is := [(.aload_n 0, 0, 0, 0), (.getfield 9, 0, 0, 0), (.iload_n 1, 1, 0, 0), (.iload_n 2, 2, 0, 0), (.iadd, 0, 0, 0)]) (pc1 := 28) (lo1 := [(2, .int 0), (0, .ref 113), (1, .int (nI q))]) (st1 := [.int ((nI q) + 0), .ref 114]) (w1 := (WX pgC pgL stC stL PA PS BA BS u)) (by decide +kernel) rfl ?_
  refine M.ald (n := 128) (f := BA 0) (j := q) (nx := 29) (by decide +kernel) rfl (nI_a0 q) (by omega) (by decide) ?_
  refine M.blk (is := [(.iload_n 2, 2, 0, 0)]) (pc1 := 30) (lo1 := [(2, .int 0), (0, .ref 113), (1, .int (nI q))]) (st1 := [.int 0, .int ((BA 0) q)]) (w1 := (WX pgC pgL stC stL PA PS BA BS u)) (by decide +kernel) rfl ?_
  refine M.icmp_ne (off := 14) (tgt := 44) (nx := 33) (by decide +kernel) (fun z30 => ?_) (fun z30 => ?_)
  · refine M.blk (is := [(.iinc 2 1, 2, 0, 1), (.goto (-45), 2, 0, 0), (.iload_n 2, 2, 0, 0), (.iconst 1, 0, 0, 1)]) (pc1 := 4) (lo1 := [(2, .int 1), (0, .ref 113), (1, .int (nI q))]) (st1 := [.int 1, .int 1]) (w1 := (WX pgC pgL stC stL PA PS BA BS u)) (by decide +kernel) rfl ?_
    refine M.icmp_gt (off := 46) (tgt := 50) (nx := 7) (by decide +kernel) (fun h => absurd h (by decide)) (fun _ => ?_)
    refine M.blk (is := [(.iload_n 1, 1, 0, 0)]) (pc1 := 8) (lo1 := [(2, .int 1), (0, .ref 113), (1, .int (nI q))]) (st1 := [.int (nI q)]) (w1 := (WX pgC pgL stC stL PA PS BA BS u)) (by decide +kernel) rfl ?_
    refine M.if_lt (off := 36) (tgt := 44) (nx := 11) (by decide +kernel) (fun z8_ => by exfalso; exact nI_pos (by omega) z8_) (fun z8_ => ?_)
    refine M.blk (is := [(.iload_n 1, 1, 0, 0), (.iload_n 2, 2, 0, 0), (.iadd, 0, 0, 0), (.aload_n 0, 0, 0, 0), (.getfield 70, 0, 8, 0)]) (pc1 := 18) (lo1 := [(2, .int 1), (0, .ref 113), (1, .int (nI q))]) (st1 := [.int (BS 8), .int ((nI q) + 1)]) (w1 := (WX pgC pgL stC stL PA PS BA BS u)) (by decide +kernel) rfl ?_
    refine M.icmp_ge (off := 26) (tgt := 44) (nx := 21) (by decide +kernel) (fun z18_ => by exfalso; rw [h8, nI_1] at z18_; exact nI_ge (by omega) (by omega) z18_) (fun z18_ => ?_)
    refine M.blk (is := [(.aload_n 0, 0, 0, 0), (.getfield 9, 0, 0, 0), (.iload_n 1, 1, 0, 0), (.iload_n 2, 2, 0, 0), (.iadd, 0, 0, 0)]) (pc1 := 28) (lo1 := [(2, .int 1), (0, .ref 113), (1, .int (nI q))]) (st1 := [.int ((nI q) + 1), .ref 114]) (w1 := (WX pgC pgL stC stL PA PS BA BS u)) (by decide +kernel) rfl ?_
    refine M.ald (n := 128) (f := BA 0) (j := q + 1) (nx := 29) (by decide +kernel) rfl (nI_1 q) (by omega) (by decide) ?_
    refine M.blk (is := [(.iload_n 2, 2, 0, 0)]) (pc1 := 30) (lo1 := [(2, .int 1), (0, .ref 113), (1, .int (nI q))]) (st1 := [.int 1, .int ((BA 0) (q + 1))]) (w1 := (WX pgC pgL stC stL PA PS BA BS u)) (by decide +kernel) rfl ?_
    refine M.icmp_ne (off := 14) (tgt := 44) (nx := 33) (by decide +kernel) (fun z30_ => ?_) (fun z30_ => ?_)
    · refine M.blk (is := [(.iinc 2 1, 2, 0, 1), (.goto (-45), 2, 0, 0), (.iload_n 2, 2, 0, 0), (.iconst 1, 0, 0, 1)]) (pc1 := 4) (lo1 := [(2, .int 2), (0, .ref 113), (1, .int (nI q))]) (st1 := [.int 1, .int 2]) (w1 := (WX pgC pgL stC stL PA PS BA BS u)) (by decide +kernel) rfl ?_
      refine M.icmp_gt (off := 46) (tgt := 50) (nx := 7) (by decide +kernel) (fun _ => ?_) (fun h => absurd h (by decide))
      exact M.retv (nx := 51) (by decide +kernel) ⟨rfl, by rw [trn_ff z30 z30_]; try exact congrArg (fun z => WX pgC pgL stC stL PA PS z BS u) (va_up_id rfl).symm⟩
    · refine M.blk (is := [(.aload_n 0, 0, 0, 0), (.getfield 9, 0, 0, 0), (.iload_n 1, 1, 0, 0), (.iload_n 2, 2, 0, 0), (.iadd, 0, 0, 0), (.iconst 1, 0, 0, 1), (.iload_n 2, 2, 0, 0), (.isub, 0, 0, 0)]) (pc1 := 43) (lo1 := [(2, .int 1), (0, .ref 113), (1, .int (nI q))]) (st1 := [.int 0, .int ((nI q) + 1), .ref 114]) (w1 := (WX pgC pgL stC stL PA PS BA BS u)) (by decide +kernel) rfl ?_
      refine M.ast (n := 128) (f := BA 0) (j := q + 1) (nx := 44) (by decide +kernel) rfl (nI_1 q) (by omega) (by decide) ?_
      show g 0 0 44 [(2, .int 1), (0, .ref 113), (1, .int (nI q))] [] (WX pgC pgL stC stL PA PS (va_up BA 0 (upd (BA 0) (q + 1) 0)) BS u)
      refine M.blk (is := [(.iinc 2 1, 2, 0, 1), (.goto (-45), 2, 0, 0), (.iload_n 2, 2, 0, 0), (.iconst 1, 0, 0, 1)]) (pc1 := 4) (lo1 := [(2, .int 2), (0, .ref 113), (1, .int (nI q))]) (st1 := [.int 1, .int 2]) (w1 := (WX pgC pgL stC stL PA PS (va_up BA 0 (upd (BA 0) (q + 1) 0)) BS u)) (by decide +kernel) rfl ?_
      refine M.icmp_gt (off := 46) (tgt := 50) (nx := 7) (by decide +kernel) (fun _ => ?_) (fun h => absurd h (by decide))
      exact M.retv (nx := 51) (by decide +kernel) ⟨rfl, by rw [trn_ft z30 z30_]; try exact congrArg (fun z => WX pgC pgL stC stL PA PS z BS u) (va_up_id rfl).symm⟩
  · refine M.blk (is := [(.aload_n 0, 0, 0, 0), (.getfield 9, 0, 0, 0), (.iload_n 1, 1, 0, 0), (.iload_n 2, 2, 0, 0), (.iadd, 0, 0, 0), (.iconst 1, 0, 0, 1), (.iload_n 2, 2, 0, 0), (.isub, 0, 0, 0)]) (pc1 := 43) (lo1 := [(2, .int 0), (0, .ref 113), (1, .int (nI q))]) (st1 := [.int 1, .int ((nI q) + 0), .ref 114]) (w1 := (WX pgC pgL stC stL PA PS BA BS u)) (by decide +kernel) rfl ?_
    refine M.ast (n := 128) (f := BA 0) (j := q) (nx := 44) (by decide +kernel) rfl (nI_a0 q) (by omega) (by decide) ?_
    show g 0 0 44 [(2, .int 0), (0, .ref 113), (1, .int (nI q))] [] (WX pgC pgL stC stL PA PS (va_up BA 0 (upd (BA 0) q 1)) BS u)
    refine M.blk (is := [(.iinc 2 1, 2, 0, 1), (.goto (-45), 2, 0, 0), (.iload_n 2, 2, 0, 0), (.iconst 1, 0, 0, 1)]) (pc1 := 4) (lo1 := [(2, .int 1), (0, .ref 113), (1, .int (nI q))]) (st1 := [.int 1, .int 1]) (w1 := (WX pgC pgL stC stL PA PS (va_up BA 0 (upd (BA 0) q 1)) BS u)) (by decide +kernel) rfl ?_
    refine M.icmp_gt (off := 46) (tgt := 50) (nx := 7) (by decide +kernel) (fun h => absurd h (by decide)) (fun _ => ?_)
    refine M.blk (is := [(.iload_n 1, 1, 0, 0)]) (pc1 := 8) (lo1 := [(2, .int 1), (0, .ref 113), (1, .int (nI q))]) (st1 := [.int (nI q)]) (w1 := (WX pgC pgL stC stL PA PS (va_up BA 0 (upd (BA 0) q 1)) BS u)) (by decide +kernel) rfl ?_
    refine M.if_lt (off := 36) (tgt := 44) (nx := 11) (by decide +kernel) (fun z8_ => by exfalso; exact nI_pos (by omega) z8_) (fun z8_ => ?_)
    refine M.blk (is := [(.iload_n 1, 1, 0, 0), (.iload_n 2, 2, 0, 0), (.iadd, 0, 0, 0), (.aload_n 0, 0, 0, 0), (.getfield 70, 0, 8, 0)]) (pc1 := 18) (lo1 := [(2, .int 1), (0, .ref 113), (1, .int (nI q))]) (st1 := [.int (BS 8), .int ((nI q) + 1)]) (w1 := (WX pgC pgL stC stL PA PS (va_up BA 0 (upd (BA 0) q 1)) BS u)) (by decide +kernel) rfl ?_
    refine M.icmp_ge (off := 26) (tgt := 44) (nx := 21) (by decide +kernel) (fun z18_ => by exfalso; rw [h8, nI_1] at z18_; exact nI_ge (by omega) (by omega) z18_) (fun z18_ => ?_)
    refine M.blk (is := [(.aload_n 0, 0, 0, 0), (.getfield 9, 0, 0, 0), (.iload_n 1, 1, 0, 0), (.iload_n 2, 2, 0, 0), (.iadd, 0, 0, 0)]) (pc1 := 28) (lo1 := [(2, .int 1), (0, .ref 113), (1, .int (nI q))]) (st1 := [.int ((nI q) + 1), .ref 114]) (w1 := (WX pgC pgL stC stL PA PS (va_up BA 0 (upd (BA 0) q 1)) BS u)) (by decide +kernel) rfl ?_
    refine M.ald (n := 128) (f := upd (BA 0) q 1) (j := q + 1) (nx := 29) (by decide +kernel) rfl (nI_1 q) (by omega) (by decide) ?_
    refine M.blk (is := [(.iload_n 2, 2, 0, 0)]) (pc1 := 30) (lo1 := [(2, .int 1), (0, .ref 113), (1, .int (nI q))]) (st1 := [.int 1, .int ((upd (BA 0) q 1) (q + 1))]) (w1 := (WX pgC pgL stC stL PA PS (va_up BA 0 (upd (BA 0) q 1)) BS u)) (by decide +kernel) rfl ?_
    refine M.icmp_ne (off := 14) (tgt := 44) (nx := 33) (by decide +kernel) (fun z30_ => ?_) (fun z30_ => ?_)
    · refine M.blk (is := [(.iinc 2 1, 2, 0, 1), (.goto (-45), 2, 0, 0), (.iload_n 2, 2, 0, 0), (.iconst 1, 0, 0, 1)]) (pc1 := 4) (lo1 := [(2, .int 2), (0, .ref 113), (1, .int (nI q))]) (st1 := [.int 1, .int 2]) (w1 := (WX pgC pgL stC stL PA PS (va_up BA 0 (upd (BA 0) q 1)) BS u)) (by decide +kernel) rfl ?_
      refine M.icmp_gt (off := 46) (tgt := 50) (nx := 7) (by decide +kernel) (fun _ => ?_) (fun h => absurd h (by decide))
      exact M.retv (nx := 51) (by decide +kernel) ⟨rfl, by rw [trn_tf z30 z30_]; try exact congrArg (fun z => WX pgC pgL stC stL PA PS z BS u) (va_up_id rfl).symm⟩
    · refine M.blk (is := [(.aload_n 0, 0, 0, 0), (.getfield 9, 0, 0, 0), (.iload_n 1, 1, 0, 0), (.iload_n 2, 2, 0, 0), (.iadd, 0, 0, 0), (.iconst 1, 0, 0, 1), (.iload_n 2, 2, 0, 0), (.isub, 0, 0, 0)]) (pc1 := 43) (lo1 := [(2, .int 1), (0, .ref 113), (1, .int (nI q))]) (st1 := [.int 0, .int ((nI q) + 1), .ref 114]) (w1 := (WX pgC pgL stC stL PA PS (va_up BA 0 (upd (BA 0) q 1)) BS u)) (by decide +kernel) rfl ?_
      refine M.ast (n := 128) (f := upd (BA 0) q 1) (j := q + 1) (nx := 44) (by decide +kernel) rfl (nI_1 q) (by omega) (by decide) ?_
      show g 0 0 44 [(2, .int 1), (0, .ref 113), (1, .int (nI q))] [] (WX pgC pgL stC stL PA PS (va_up BA 0 (upd (upd (BA 0) q 1) (q + 1) 0)) BS u)
      refine M.blk (is := [(.iinc 2 1, 2, 0, 1), (.goto (-45), 2, 0, 0), (.iload_n 2, 2, 0, 0), (.iconst 1, 0, 0, 1)]) (pc1 := 4) (lo1 := [(2, .int 2), (0, .ref 113), (1, .int (nI q))]) (st1 := [.int 1, .int 2]) (w1 := (WX pgC pgL stC stL PA PS (va_up BA 0 (upd (upd (BA 0) q 1) (q + 1) 0)) BS u)) (by decide +kernel) rfl ?_
      refine M.icmp_gt (off := 46) (tgt := 50) (nx := 7) (by decide +kernel) (fun _ => ?_) (fun h => absurd h (by decide))
      exact M.retv (nx := 51) (by decide +kernel) ⟨rfl, by rw [trn_tt z30 z30_]; try exact congrArg (fun z => WX pgC pgL stC stL PA PS z BS u) (va_up_id rfl).symm⟩
theorem hld_0 {pat : Nat} {f : Nat → Int32} : upd (upd f (2 * pat) 0) (2 * pat + 1) 1 = hldF 0 pat f := by
  funext p
  unfold hldF
  by_cases e1 : p = 2 * pat + 1
  · subst e1; rw [pk_us, if_neg (by omega), if_pos ⟨rfl, rfl⟩]
  · rw [pk_un e1]
    by_cases e2 : p = 2 * pat
    · subst e2; rw [pk_us, if_pos ⟨rfl, rfl⟩]
    · rw [pk_un e2, if_neg (fun h => e2 h.2), if_neg (fun h => e1 h.2)]
theorem hld_n {κ pat : Nat} {f : Nat → Int32} (h : ¬ κ = 0) : hldF κ pat f = f := by
  funext p
  unfold hldF
  rw [if_neg (fun e => h e.1), if_neg (fun e => h e.1)]
theorem x_hold {κ pat : Nat} (h7 : BS 7 = kI κ) (h8 : BS 8 = nI (ptsN κ)) (h10 : BS 10 = nI pat) (hp : pat < 16) : CC 0 mX0_hold 0 0 [.ref 113] (WX pgC pgL stC stL PA PS BA BS u) (Rv (WX pgC pgL stC stL PA PS (va_up BA 0 (hldF κ pat (BA 0))) BS u)) := by
  refine CC.of okX0_hold.1 (Nat.le_of_ble_eq_true rfl) (fun g M => ?_)
  have h2p : 2 * BS 10 = nI (2 * pat) := by rw [h10, show (2 : Int32) = nI 2 from rfl, pk_mul]
  show g 0 0 0 [(0, .ref 113)] [] (WX pgC pgL stC stL PA PS BA BS u)
  refine M.blk (is := [(.iconst 2, 0, 0, 2), (.aload_n 0, 0, 0, 0), (.getfield 80, 0, 10, 0), (.imul, 0, 0, 0), (.istore_n 1, 1, 0, 0)]) (pc1 := 7) (lo1 := [(1, .int (2 * (BS 10))), (0, .ref 113)]) (st1 := []) (w1 := (WX pgC pgL stC stL PA PS BA BS u)) (by decide +kernel) rfl ?_
  rw [h2p]
  refine M.blk (is := [(.aload_n 0, 0, 0, 0), (.getfield 35, 0, 7, 0)]) (pc1 := 11) (lo1 := [(1, .int (nI (2 * pat))), (0, .ref 113)]) (st1 := [.int (BS 7)]) (w1 := (WX pgC pgL stC stL PA PS BA BS u)) (by decide +kernel) rfl ?_
  refine M.if_ne (off := 33) (tgt := 44) (nx := 14) (by decide +kernel) (fun z11 => ?_) (fun z11 => ?_)
  · exact M.retv (nx := 45) (by decide +kernel) ⟨rfl, by rw [hld_n (fun e => z11 (by rw [h7, e]; rfl)), va_up_id (f := BA) (k := 0) rfl]⟩
  · have ek := (kI_0 κ).mp (h7 ▸ z11)
    have hP : ptsN κ = 32 := by rw [ek]; rfl
    refine M.blk (is := [(.iload_n 1, 1, 0, 0)]) (pc1 := 15) (lo1 := [(1, .int (nI (2 * pat))), (0, .ref 113)]) (st1 := [.int (nI (2 * pat))]) (w1 := (WX pgC pgL stC stL PA PS BA BS u)) (by decide +kernel) rfl ?_
    refine M.if_lt (off := 29) (tgt := 44) (nx := 18) (by decide +kernel) (fun z15 => by exfalso; exact nI_pos (by omega) z15) (fun z15 => ?_)
    refine M.blk (is := [(.iload_n 1, 1, 0, 0), (.iconst 1, 0, 0, 1), (.iadd, 0, 0, 0), (.aload_n 0, 0, 0, 0), (.getfield 70, 0, 8, 0)]) (pc1 := 25) (lo1 := [(1, .int (nI (2 * pat))), (0, .ref 113)]) (st1 := [.int (BS 8), .int ((nI (2 * pat)) + 1)]) (w1 := (WX pgC pgL stC stL PA PS BA BS u)) (by decide +kernel) rfl ?_
    refine M.icmp_ge (off := 19) (tgt := 44) (nx := 28) (by decide +kernel) (fun z25 => by exfalso; rw [h8, hP, nI_1] at z25; exact nI_ge (by omega) (by omega) z25) (fun z25 => ?_)
    refine M.blk (is := [(.aload_n 0, 0, 0, 0), (.getfield 9, 0, 0, 0), (.iload_n 1, 1, 0, 0), (.iconst 0, 0, 0, 0)]) (pc1 := 34) (lo1 := [(1, .int (nI (2 * pat))), (0, .ref 113)]) (st1 := [.int 0, .int (nI (2 * pat)), .ref 114]) (w1 := (WX pgC pgL stC stL PA PS BA BS u)) (by decide +kernel) rfl ?_
    refine M.ast (n := 128) (f := BA 0) (j := (2 * pat)) (nx := 35) (by decide +kernel) rfl rfl (by omega) (by decide) ?_
    show g 0 0 35 [(1, .int (nI (2 * pat))), (0, .ref 113)] [] (WX pgC pgL stC stL PA PS (va_up BA 0 (upd (BA 0) (2 * pat) 0)) BS u)
    refine M.blk (is := [(.aload_n 0, 0, 0, 0), (.getfield 9, 0, 0, 0), (.iload_n 1, 1, 0, 0), (.iconst 1, 0, 0, 1), (.iadd, 0, 0, 0), (.iconst 1, 0, 0, 1)]) (pc1 := 43) (lo1 := [(1, .int (nI (2 * pat))), (0, .ref 113)]) (st1 := [.int 1, .int ((nI (2 * pat)) + 1), .ref 114]) (w1 := (WX pgC pgL stC stL PA PS (va_up BA 0 (upd (BA 0) (2 * pat) 0)) BS u)) (by decide +kernel) rfl ?_
    refine M.ast (n := 128) (f := upd (BA 0) (2 * pat) 0) (j := 2 * pat + 1) (nx := 44) (by decide +kernel) rfl (nI_1 _) (by omega) (by decide) ?_
    show g 0 0 44 [(1, .int (nI (2 * pat))), (0, .ref 113)] [] (WX pgC pgL stC stL PA PS (va_up BA 0 (upd (upd (BA 0) (2 * pat) 0) (2 * pat + 1) 1)) BS u)
    exact M.retv (nx := 45) (by decide +kernel) ⟨rfl, by rw [(kI_0 κ).mp (h7 ▸ z11), ← hld_0]⟩
theorem bs_had : ∀ (a : Fin 16) (k : Fin 4), (nI a.val >>> (nI k.val &&& 31)) &&& 1 = nI (a.val / 2 ^ k.val % 2) := by decide +kernel
theorem bs_xor : ∀ (a : Fin 16) (k : Fin 4), nI a.val ^^^ ((1 : Int32) <<< (nI k.val &&& 31)) = nI (a.val ^^^ 2 ^ k.val) ∧ a.val ^^^ 2 ^ k.val < 16 := by decide +kernel
theorem bs_q : ∀ (a : Fin 16) (k : Fin 4), (nI a.val &&& (((1 : Int32) <<< (nI k.val &&& 31)) - 1)) ||| ((nI a.val >>> ((1 : Int32) &&& 31)) &&& ((((1 : Int32) <<< (nI k.val &&& 31)) - 1) ^^^ (-1))) = nI (rmB a.val k.val) ∧ rmB a.val k.val < 8 := by decide +kernel
theorem bes_n {κ k pat : Nat} {s : Int32} {f : Nat → Int32} (h : ¬ wrN s (pat / 2 ^ k % 2) = pat / 2 ^ k % 2) (h2 : ¬ κ = 2) : besB κ k s pat f = (pat ^^^ 2 ^ k, f) := by
  unfold besB
  rw [if_neg h, if_neg h2]
theorem bes_t {κ k pat : Nat} {s : Int32} {f : Nat → Int32} (h : ¬ wrN s (pat / 2 ^ k % 2) = pat / 2 ^ k % 2) (h2 : κ = 2) : besB κ k s pat f = (pat ^^^ 2 ^ k, trnF (32 * k + 16 * wrN s (pat / 2 ^ k % 2) + 2 * rmB (pat ^^^ 2 ^ k) k) f) := by
  unfold besB
  rw [if_neg h, if_pos h2]
theorem x_writeBeside {κ pat : Nat} (h7 : BS 7 = kI κ) (h8 : BS 8 = nI (ptsN κ)) (h10 : BS 10 = nI pat) (hp : pat < 16) {k : Nat} (hk : k < 4) (s : Int32) : CC 1 mX0_writeBeside 0 0 [.ref 113, .int (nI k), .int s] (WX pgC pgL stC stL PA PS BA BS u) (Rv (WX pgC pgL stC stL PA PS (va_up BA 0 ((besB κ k s pat (BA 0)).2)) (upd BS 10 (nI (besB κ k s pat (BA 0)).1)) u)) := by
  have e1 := bs_had ⟨pat, hp⟩ ⟨k, hk⟩
  have e2 := bs_xor ⟨pat, hp⟩ ⟨k, hk⟩
  have e3 := bs_q ⟨pat ^^^ 2 ^ k, e2.2⟩ ⟨k, hk⟩
  dsimp only at e1 e2 e3
  have hh : pat / 2 ^ k % 2 < 2 := Nat.mod_lt _ (by decide)
  have hw2 := wrN_2 s (pat / 2 ^ k % 2)
  refine CC.of okX0_writeBeside.1 (Nat.le_of_ble_eq_true rfl) (fun g M => ?_)
  show g 0 0 0 [(0, .ref 113), (1, .int (nI k)), (2, .int s)] [] (WX pgC pgL stC stL PA PS BA BS u)
  refine M.blk (is := [(.aload_n 0, 0, 0, 0), (.getfield 80, 0, 10, 0), (.iload_n 1, 1, 0, 0), (.ishr, 0, 0, 0), (.iconst 1, 0, 0, 1), (.iand, 0, 0, 0)]) (pc1 := 8) (lo1 := [(0, .ref 113), (1, .int (nI k)), (2, .int s)]) (st1 := [.int (((BS 10) >>> ((nI k) &&& 31)) &&& 1)]) (w1 := (WX pgC pgL stC stL PA PS BA BS u)) (by decide +kernel) rfl ?_
  rw [h10, e1]
  refine M.blk (is := [(.istore_n 3, 3, 0, 0), (.iload_n 2, 2, 0, 0), (.iload_n 3, 3, 0, 0)]) (pc1 := 11) (lo1 := [(3, .int (nI (pat / 2 ^ k % 2))), (0, .ref 113), (1, .int (nI k)), (2, .int s)]) (st1 := [.int (nI (pat / 2 ^ k % 2)), .int s]) (w1 := (WX pgC pgL stC stL PA PS BA BS u)) (by decide +kernel) rfl ?_
  refine M.callSi (as := [.int s, .int (nI (pat / 2 ^ k % 2))]) (st := []) (nx := 14) okX0_written lkX0_113 (s_written (WX pgC pgL stC stL PA PS BA BS u) s (nI (pat / 2 ^ k % 2))) (by decide +kernel) (by decide) rfl (Nat.le_of_ble_eq_true rfl) ?_
  rw [wrF_nI s hh]
  refine M.blk (is := [(.istore 4, 4, 0, 0), (.iload 4, 4, 0, 0), (.iload_n 3, 3, 0, 0)]) (pc1 := 19) (lo1 := [(4, .int (nI (wrN s (pat / 2 ^ k % 2)))), (3, .int (nI (pat / 2 ^ k % 2))), (0, .ref 113), (1, .int (nI k)), (2, .int s)]) (st1 := [.int (nI (pat / 2 ^ k % 2)), .int (nI (wrN s (pat / 2 ^ k % 2)))]) (w1 := (WX pgC pgL stC stL PA PS BA BS u)) (by decide +kernel) rfl ?_
  refine M.icmp_ne (off := 4) (tgt := 23) (nx := 22) (by decide +kernel) (fun z19 => ?_) (fun z19 => ?_)
  · refine M.blk (is := [(.aload_n 0, 0, 0, 0), (.dup, 0, 0, 0), (.getfield 80, 0, 10, 0), (.iconst 1, 0, 0, 1), (.iload_n 1, 1, 0, 0), (.ishl, 0, 0, 0), (.ixor, 0, 0, 0)]) (pc1 := 32) (lo1 := [(4, .int (nI (wrN s (pat / 2 ^ k % 2)))), (3, .int (nI (pat / 2 ^ k % 2))), (0, .ref 113), (1, .int (nI k)), (2, .int s)]) (st1 := [.int ((BS 10) ^^^ ((1 : Int32) <<< ((nI k) &&& 31))), .ref 113]) (w1 := (WX pgC pgL stC stL PA PS BA BS u)) (by decide +kernel) rfl ?_
    rw [h10, e2.1]
    refine M.blk (is := [(.putfield 80, 0, 10, 0), (.aload_n 0, 0, 0, 0), (.getfield 35, 0, 7, 0), (.iconst 2, 0, 0, 2)]) (pc1 := 40) (lo1 := [(4, .int (nI (wrN s (pat / 2 ^ k % 2)))), (3, .int (nI (pat / 2 ^ k % 2))), (0, .ref 113), (1, .int (nI k)), (2, .int s)]) (st1 := [.int 2, .int (BS 7)]) (w1 := (WX pgC pgL stC stL PA PS BA (upd BS 10 (nI (pat ^^^ 2 ^ k))) u)) (by decide +kernel) rfl ?_
    refine M.icmp_ne (off := 50) (tgt := 90) (nx := 43) (by decide +kernel) (fun z40 => ?_) (fun z40 => ?_)
    · exact M.retv (nx := 91) (by decide +kernel) ⟨rfl, by rw [bes_n (fun e => z19 (by rw [e])) (fun e => z40 (by rw [h7, e]; rfl)), va_up_id (f := BA) (k := 0) rfl]⟩
    · refine M.blk (is := [(.iconst 1, 0, 0, 1), (.iload_n 1, 1, 0, 0), (.ishl, 0, 0, 0), (.iconst 1, 0, 0, 1), (.isub, 0, 0, 0), (.istore 5, 5, 0, 0), (.aload_n 0, 0, 0, 0), (.getfield 80, 0, 10, 0), (.iload 5, 5, 0, 0), (.iand, 0, 0, 0), (.aload_n 0, 0, 0, 0), (.getfield 80, 0, 10, 0), (.iconst 1, 0, 0, 1), (.ishr, 0, 0, 0), (.iload 5, 5, 0, 0), (.iconst (-1), 0, 0, (-1)), (.ixor, 0, 0, 0), (.iand, 0, 0, 0), (.ior, 0, 0, 0)]) (pc1 := 69) (lo1 := [(5, .int (((1 : Int32) <<< ((nI k) &&& 31)) - 1)), (4, .int (nI (wrN s (pat / 2 ^ k % 2)))), (3, .int (nI (pat / 2 ^ k % 2))), (0, .ref 113), (1, .int (nI k)), (2, .int s)]) (st1 := [.int (((nI (pat ^^^ 2 ^ k)) &&& (((1 : Int32) <<< ((nI k) &&& 31)) - 1)) ||| (((nI (pat ^^^ 2 ^ k)) >>> ((1 : Int32) &&& 31)) &&& ((((1 : Int32) <<< ((nI k) &&& 31)) - 1) ^^^ (-1))))]) (w1 := (WX pgC pgL stC stL PA PS BA (upd BS 10 (nI (pat ^^^ 2 ^ k))) u)) (by decide +kernel) rfl ?_
      rw [e3.1]
      refine M.blk (is := [(.istore 6, 6, 0, 0), (.aload_n 0, 0, 0, 0), (.bipush 32, 0, 0, 32), (.iload_n 1, 1, 0, 0), (.imul, 0, 0, 0), (.bipush 16, 0, 0, 16), (.iload 4, 4, 0, 0), (.imul, 0, 0, 0), (.iadd, 0, 0, 0), (.iconst 2, 0, 0, 2), (.iload 6, 6, 0, 0), (.imul, 0, 0, 0), (.iadd, 0, 0, 0)]) (pc1 := 87) (lo1 := [(6, .int (nI (rmB (pat ^^^ 2 ^ k) k))), (5, .int (((1 : Int32) <<< ((nI k) &&& 31)) - 1)), (4, .int (nI (wrN s (pat / 2 ^ k % 2)))), (3, .int (nI (pat / 2 ^ k % 2))), (0, .ref 113), (1, .int (nI k)), (2, .int s)]) (st1 := [.int (((32 * (nI k)) + (16 * (nI (wrN s (pat / 2 ^ k % 2))))) + (2 * (nI (rmB (pat ^^^ 2 ^ k) k)))), .ref 113]) (w1 := (WX pgC pgL stC stL PA PS BA (upd BS 10 (nI (pat ^^^ 2 ^ k))) u)) (by decide +kernel) rfl ?_
      rw [show (32 : Int32) * nI k + 16 * nI (wrN s (pat / 2 ^ k % 2)) + 2 * nI (rmB (pat ^^^ 2 ^ k) k) = nI (32 * k + 16 * wrN s (pat / 2 ^ k % 2) + 2 * rmB (pat ^^^ 2 ^ k) k) by rw [show (32 : Int32) = nI 32 from rfl, show (16 : Int32) = nI 16 from rfl, show (2 : Int32) = nI 2 from rfl, pk_mul, pk_mul, pk_mul, nI_add, nI_add]]
      refine M.callVv (as := [.int (nI (32 * k + 16 * wrN s (pat / 2 ^ k % 2) + 2 * rmB (pat ^^^ 2 ^ k) k))]) (st := []) (nx := 90) okX0_turn lkX0_116 (x_turn (P := 128) (by show BS 8 = nI 128; rw [h8, (kI_2 κ).mp (h7 ▸ z40)]; rfl) (by omega) (by decide)) (by decide +kernel) (by decide) rfl (Nat.le_of_ble_eq_true rfl) rfl (by decide) ?_
      show g 0 0 90 [(6, .int (nI (rmB (pat ^^^ 2 ^ k) k))), (5, .int (((1 : Int32) <<< ((nI k) &&& 31)) - 1)), (4, .int (nI (wrN s (pat / 2 ^ k % 2)))), (3, .int (nI (pat / 2 ^ k % 2))), (0, .ref 113), (1, .int (nI k)), (2, .int s)] [] (WX pgC pgL stC stL PA PS (va_up BA 0 (trnF (32 * k + 16 * wrN s (pat / 2 ^ k % 2) + 2 * rmB (pat ^^^ 2 ^ k) k) (BA 0))) (upd BS 10 (nI (pat ^^^ 2 ^ k))) u)
      exact M.retv (nx := 91) (by decide +kernel) ⟨rfl, by rw [bes_t (fun e => z19 (by rw [e])) ((kI_2 κ).mp (h7 ▸ z40))]⟩
  · exact M.retv (nx := 23) (by decide +kernel) ⟨rfl, by rw [show besB κ k s pat (BA 0) = (pat, BA 0) from if_pos (nI_inj (by omega) (by omega) z19)]; show _ = WX pgC pgL stC stL PA PS (va_up BA 0 (BA 0)) (upd BS 10 (nI pat)) u; rw [va_up_id (f := BA) (k := 0) rfl, upd_id h10]⟩
theorem rd_0 {v x : Int32} {B M F R : Nat → Int32} : rdM 0 v B M = M ∧ rdF 0 v x B M F = F ∧ rdR 0 v B M R = R := by
  refine ⟨?_, ?_, ?_⟩ <;> funext p
  · unfold rdM; rw [if_neg (by omega)]
  · unfold rdF; rw [if_neg (by omega)]
  · unfold rdR; rw [if_neg (by omega)]
theorem rd_self {k : Nat} {v : Int32} {B M : Nat → Int32} : rdM k v B M k = M k := by unfold rdM; rw [if_neg (by omega)]
theorem rd_eq {k : Nat} {v x : Int32} {B M F R : Nat → Int32} (h : B k = v) : rdM k v B M = rdM (k + 1) v B M ∧ rdF k v x B M F = rdF (k + 1) v x B M F ∧ rdR k v B M R = rdR (k + 1) v B M R := by
  refine ⟨?_, ?_, ?_⟩ <;> funext p
  · unfold rdM
    by_cases e : p = k
    · subst e; rw [if_neg (by omega), if_neg (fun z => z.2 h)]
    · simp only [show (p < k + 1) = (p < k) by apply propext; omega]
  · unfold rdF
    by_cases e : p = k
    · subst e; rw [if_neg (by omega), if_neg (fun z => z.2.1 h)]
    · simp only [show (p < k + 1) = (p < k) by apply propext; omega]
  · unfold rdR
    by_cases e : p = k
    · subst e; rw [if_neg (by omega), if_neg (fun z => z.2.1 h)]
    · simp only [show (p < k + 1) = (p < k) by apply propext; omega]
theorem rd_M {k : Nat} {v : Int32} {B M : Nat → Int32} (h : ¬ B k = v) : upd (rdM k v B M) k (M k + 1) = rdM (k + 1) v B M := by
  funext p
  by_cases e : p = k
  · subst e; rw [pk_us]; unfold rdM; rw [if_pos ⟨by omega, h⟩]
  · rw [pk_un e]; unfold rdM
    simp only [show (p < k + 1) = (p < k) by apply propext; omega]
theorem rd_Fn {k : Nat} {v x : Int32} {B M F R : Nat → Int32} (h : ¬ M k = 0) : rdF k v x B M F = rdF (k + 1) v x B M F ∧ rdR k v B M R = rdR (k + 1) v B M R := by
  refine ⟨?_, ?_⟩ <;> funext p
  · unfold rdF
    by_cases e : p = k
    · subst e; rw [if_neg (by omega), if_neg (fun z => h z.2.2)]
    · simp only [show (p < k + 1) = (p < k) by apply propext; omega]
  · unfold rdR
    by_cases e : p = k
    · subst e; rw [if_neg (by omega), if_neg (fun z => h z.2.2)]
    · simp only [show (p < k + 1) = (p < k) by apply propext; omega]
theorem rd_Ft {k : Nat} {v x : Int32} {B M F R : Nat → Int32} (h0 : ¬ B k = v) (h : M k = 0) : upd (rdF k v x B M F) k x = rdF (k + 1) v x B M F ∧ upd (rdR k v B M R) k (B k) = rdR (k + 1) v B M R := by
  refine ⟨?_, ?_⟩ <;> funext p
  · by_cases e : p = k
    · subst e; rw [pk_us]; unfold rdF; rw [if_pos ⟨by omega, h0, h⟩]
    · rw [pk_un e]; unfold rdF
      simp only [show (p < k + 1) = (p < k) by apply propext; omega]
  · by_cases e : p = k
    · subst e; rw [pk_us]; unfold rdR; rw [if_pos ⟨by omega, h0, h⟩]
    · rw [pk_un e]; unfold rdR
      simp only [show (p < k + 1) = (p < k) by apply propext; omega]
theorem x_readAll {P : Nat} (h8 : BS 8 = nI P) (hP : P ≤ 128) (x : Int32) : CC 0 mX0_readAll 0 0 [.ref 113, .int x] (WX pgC pgL stC stL PA PS BA BS u) (Rv (WX pgC pgL stC stL PA PS (va_up (va_up (va_up BA 1 (rdM P (BS 11) (BA 0) (BA 1))) 2 (rdF P (BS 11) x (BA 0) (BA 1) (BA 2))) 3 (rdR P (BS 11) (BA 0) (BA 1) (BA 3))) (upd BS 12 (BS 12 ||| (1 <<< ((16 * BS 11 + BS 10) &&& 31)))) u)) := by
  refine CC.of okX0_readAll.1 (Nat.le_of_ble_eq_true rfl) (fun g M => ?_)
  have lp : ∀ m k, k + m = P → g 0 0 25 [(0, .ref 113), (1, .int x), (2, .int (nI k))] [] (WX pgC pgL stC stL PA PS (va_up (va_up (va_up BA 1 (rdM k (BS 11) (BA 0) (BA 1))) 2 (rdF k (BS 11) x (BA 0) (BA 1) (BA 2))) 3 (rdR k (BS 11) (BA 0) (BA 1) (BA 3))) (upd BS 12 (BS 12 ||| (1 <<< ((16 * BS 11 + BS 10) &&& 31)))) u) := by
    intro m
    induction m with
    | zero =>
      intro k hk
      have ek : P = k := by omega
      subst ek
      refine M.blk (is := [(.iload_n 2, 2, 0, 0), (.aload_n 0, 0, 0, 0), (.getfield 70, 0, 8, 0)]) (pc1 := 30) (lo1 := [(0, .ref 113), (1, .int x), (2, .int (nI P))]) (st1 := [.int (BS 8), .int (nI P)]) (w1 := (WX pgC pgL stC stL PA PS (va_up (va_up (va_up BA 1 (rdM P (BS 11) (BA 0) (BA 1))) 2 (rdF P (BS 11) x (BA 0) (BA 1) (BA 2))) 3 (rdR P (BS 11) (BA 0) (BA 1) (BA 3))) (upd BS 12 (BS 12 ||| (1 <<< ((16 * BS 11 + BS 10) &&& 31)))) u)) (by decide +kernel) rfl ?_
      refine M.icmp_ge (off := 60) (tgt := 90) (nx := 33) (by decide +kernel) (fun z30 => ?_) (fun z30 => by exfalso; exact z30 (by rw [h8]; exact nI_le (Nat.le_refl _) (by omega)))
      exact M.retv (nx := 91) (by decide +kernel) ⟨rfl, rfl⟩
    | succ m ih =>
      intro k hk
      refine M.blk (is := [(.iload_n 2, 2, 0, 0), (.aload_n 0, 0, 0, 0), (.getfield 70, 0, 8, 0)]) (pc1 := 30) (lo1 := [(0, .ref 113), (1, .int x), (2, .int (nI k))]) (st1 := [.int (BS 8), .int (nI k)]) (w1 := (WX pgC pgL stC stL PA PS (va_up (va_up (va_up BA 1 (rdM k (BS 11) (BA 0) (BA 1))) 2 (rdF k (BS 11) x (BA 0) (BA 1) (BA 2))) 3 (rdR k (BS 11) (BA 0) (BA 1) (BA 3))) (upd BS 12 (BS 12 ||| (1 <<< ((16 * BS 11 + BS 10) &&& 31)))) u)) (by decide +kernel) rfl ?_
      refine M.icmp_ge (off := 60) (tgt := 90) (nx := 33) (by decide +kernel) (fun z30 => by exfalso; rw [h8] at z30; exact nI_ge (show k < P by omega) (by omega) z30) (fun z30 => ?_)
      refine M.blk (is := [(.aload_n 0, 0, 0, 0), (.getfield 9, 0, 0, 0), (.iload_n 2, 2, 0, 0)]) (pc1 := 38) (lo1 := [(0, .ref 113), (1, .int x), (2, .int (nI k))]) (st1 := [.int (nI k), .ref 114]) (w1 := (WX pgC pgL stC stL PA PS (va_up (va_up (va_up BA 1 (rdM k (BS 11) (BA 0) (BA 1))) 2 (rdF k (BS 11) x (BA 0) (BA 1) (BA 2))) 3 (rdR k (BS 11) (BA 0) (BA 1) (BA 3))) (upd BS 12 (BS 12 ||| (1 <<< ((16 * BS 11 + BS 10) &&& 31)))) u)) (by decide +kernel) rfl ?_
      refine M.ald (n := 128) (f := BA 0) (j := k) (nx := 39) (by decide +kernel) rfl rfl (by omega) (by decide) ?_
      refine M.blk (is := [(.aload_n 0, 0, 0, 0), (.getfield 83, 0, 11, 0)]) (pc1 := 43) (lo1 := [(0, .ref 113), (1, .int x), (2, .int (nI k))]) (st1 := [.int (BS 11), .int ((BA 0) k)]) (w1 := (WX pgC pgL stC stL PA PS (va_up (va_up (va_up BA 1 (rdM k (BS 11) (BA 0) (BA 1))) 2 (rdF k (BS 11) x (BA 0) (BA 1) (BA 2))) 3 (rdR k (BS 11) (BA 0) (BA 1) (BA 3))) (upd BS 12 (BS 12 ||| (1 <<< ((16 * BS 11 + BS 10) &&& 31)))) u)) (by decide +kernel) rfl ?_
      refine M.icmp_eq (off := 41) (tgt := 84) (nx := 46) (by decide +kernel) (fun z43 => ?_) (fun z43 => ?_)
      · refine M.blk (is := [(.iinc 2 1, 2, 0, 1), (.goto (-62), 25, 0, 0)]) (pc1 := 25) (lo1 := [(2, .int ((nI k) + 1)), (0, .ref 113), (1, .int x)]) (st1 := []) (w1 := (WX pgC pgL stC stL PA PS (va_up (va_up (va_up BA 1 (rdM k (BS 11) (BA 0) (BA 1))) 2 (rdF k (BS 11) x (BA 0) (BA 1) (BA 2))) 3 (rdR k (BS 11) (BA 0) (BA 1) (BA 3))) (upd BS 12 (BS 12 ||| (1 <<< ((16 * BS 11 + BS 10) &&& 31)))) u)) (by decide +kernel) rfl ?_
        refine M.lsub [1, 2, 0] (lo1 := [(0, .ref 113), (1, .int x), (2, .int ((nI k) + 1))]) rfl ?_
        rw [nI_1, (rd_eq (x := x) (F := BA 2) (R := BA 3) z43).1, (rd_eq (x := x) (F := BA 2) (R := BA 3) z43).2.1, (rd_eq (x := x) (F := BA 2) (R := BA 3) z43).2.2]
        exact ih (k + 1) (by omega)
      · refine M.blk (is := [(.aload_n 0, 0, 0, 0), (.getfield 15, 0, 1, 0), (.iload_n 2, 2, 0, 0)]) (pc1 := 51) (lo1 := [(0, .ref 113), (1, .int x), (2, .int (nI k))]) (st1 := [.int (nI k), .ref 115]) (w1 := (WX pgC pgL stC stL PA PS (va_up (va_up (va_up BA 1 (rdM k (BS 11) (BA 0) (BA 1))) 2 (rdF k (BS 11) x (BA 0) (BA 1) (BA 2))) 3 (rdR k (BS 11) (BA 0) (BA 1) (BA 3))) (upd BS 12 (BS 12 ||| (1 <<< ((16 * BS 11 + BS 10) &&& 31)))) u)) (by decide +kernel) rfl ?_
        refine M.ald (n := 128) (f := rdM k (BS 11) (BA 0) (BA 1)) (j := k) (nx := 52) (by decide +kernel) rfl rfl (by omega) (by decide) ?_
        rw [rd_self]
        refine M.if_ne (off := 22) (tgt := 74) (nx := 55) (by decide +kernel) (fun z52 => ?_) (fun z52 => ?_)
        · refine M.blk (is := [(.aload_n 0, 0, 0, 0), (.getfield 15, 0, 1, 0), (.iload_n 2, 2, 0, 0), (.dup2, 0, 0, 0)]) (pc1 := 80) (lo1 := [(0, .ref 113), (1, .int x), (2, .int (nI k))]) (st1 := [.int (nI k), .ref 115, .int (nI k), .ref 115]) (w1 := (WX pgC pgL stC stL PA PS (va_up (va_up (va_up BA 1 (rdM k (BS 11) (BA 0) (BA 1))) 2 (rdF k (BS 11) x (BA 0) (BA 1) (BA 2))) 3 (rdR k (BS 11) (BA 0) (BA 1) (BA 3))) (upd BS 12 (BS 12 ||| (1 <<< ((16 * BS 11 + BS 10) &&& 31)))) u)) (by decide +kernel) rfl ?_
          refine M.ald (n := 128) (f := rdM k (BS 11) (BA 0) (BA 1)) (j := k) (nx := 81) (by decide +kernel) rfl rfl (by omega) (by decide) ?_
          rw [rd_self]
          refine M.blk (is := [(.iconst 1, 0, 0, 1), (.iadd, 0, 0, 0)]) (pc1 := 83) (lo1 := [(0, .ref 113), (1, .int x), (2, .int (nI k))]) (st1 := [.int ((BA 1 k) + 1), .int (nI k), .ref 115]) (w1 := (WX pgC pgL stC stL PA PS (va_up (va_up (va_up BA 1 (rdM k (BS 11) (BA 0) (BA 1))) 2 (rdF k (BS 11) x (BA 0) (BA 1) (BA 2))) 3 (rdR k (BS 11) (BA 0) (BA 1) (BA 3))) (upd BS 12 (BS 12 ||| (1 <<< ((16 * BS 11 + BS 10) &&& 31)))) u)) (by decide +kernel) rfl ?_
          refine M.ast (n := 128) (f := rdM k (BS 11) (BA 0) (BA 1)) (j := k) (nx := 84) (by decide +kernel) rfl rfl (by omega) (by decide) ?_
          show g 0 0 84 [(0, .ref 113), (1, .int x), (2, .int (nI k))] [] (WX pgC pgL stC stL PA PS (va_up (va_up (va_up BA 2 (rdF k (BS 11) x (BA 0) (BA 1) (BA 2))) 3 (rdR k (BS 11) (BA 0) (BA 1) (BA 3))) 1 (upd (rdM k (BS 11) (BA 0) (BA 1)) k ((BA 1 k) + 1))) (upd BS 12 (BS 12 ||| (1 <<< ((16 * BS 11 + BS 10) &&& 31)))) u)
          refine M.blk (is := [(.iinc 2 1, 2, 0, 1), (.goto (-62), 25, 0, 0)]) (pc1 := 25) (lo1 := [(2, .int ((nI k) + 1)), (0, .ref 113), (1, .int x)]) (st1 := []) (w1 := (WX pgC pgL stC stL PA PS (va_up (va_up (va_up BA 2 (rdF k (BS 11) x (BA 0) (BA 1) (BA 2))) 3 (rdR k (BS 11) (BA 0) (BA 1) (BA 3))) 1 (upd (rdM k (BS 11) (BA 0) (BA 1)) k ((BA 1 k) + 1))) (upd BS 12 (BS 12 ||| (1 <<< ((16 * BS 11 + BS 10) &&& 31)))) u)) (by decide +kernel) rfl ?_
          refine M.lsub [1, 2, 0] (lo1 := [(0, .ref 113), (1, .int x), (2, .int ((nI k) + 1))]) rfl ?_
          rw [nI_1, rd_M z43, (rd_Fn (v := BS 11) (x := x) (B := BA 0) (F := BA 2) (R := BA 3) z52).1, (rd_Fn (v := BS 11) (x := x) (B := BA 0) (F := BA 2) (R := BA 3) z52).2]
          exact ih (k + 1) (by omega)
        · refine M.blk (is := [(.aload_n 0, 0, 0, 0), (.getfield 18, 0, 2, 0), (.iload_n 2, 2, 0, 0), (.iload_n 1, 1, 0, 0)]) (pc1 := 61) (lo1 := [(0, .ref 113), (1, .int x), (2, .int (nI k))]) (st1 := [.int x, .int (nI k), .ref 116]) (w1 := (WX pgC pgL stC stL PA PS (va_up (va_up (va_up BA 1 (rdM k (BS 11) (BA 0) (BA 1))) 2 (rdF k (BS 11) x (BA 0) (BA 1) (BA 2))) 3 (rdR k (BS 11) (BA 0) (BA 1) (BA 3))) (upd BS 12 (BS 12 ||| (1 <<< ((16 * BS 11 + BS 10) &&& 31)))) u)) (by decide +kernel) rfl ?_
          refine M.ast (n := 128) (f := rdF k (BS 11) x (BA 0) (BA 1) (BA 2)) (j := k) (nx := 62) (by decide +kernel) rfl rfl (by omega) (by decide) ?_
          show g 0 0 62 [(0, .ref 113), (1, .int x), (2, .int (nI k))] [] (WX pgC pgL stC stL PA PS (va_up (va_up (va_up BA 1 (rdM k (BS 11) (BA 0) (BA 1))) 3 (rdR k (BS 11) (BA 0) (BA 1) (BA 3))) 2 (upd (rdF k (BS 11) x (BA 0) (BA 1) (BA 2)) k x)) (upd BS 12 (BS 12 ||| (1 <<< ((16 * BS 11 + BS 10) &&& 31)))) u)
          refine M.blk (is := [(.aload_n 0, 0, 0, 0), (.getfield 21, 0, 3, 0), (.iload_n 2, 2, 0, 0), (.aload_n 0, 0, 0, 0), (.getfield 9, 0, 0, 0), (.iload_n 2, 2, 0, 0)]) (pc1 := 72) (lo1 := [(0, .ref 113), (1, .int x), (2, .int (nI k))]) (st1 := [.int (nI k), .ref 114, .int (nI k), .ref 117]) (w1 := (WX pgC pgL stC stL PA PS (va_up (va_up (va_up BA 1 (rdM k (BS 11) (BA 0) (BA 1))) 3 (rdR k (BS 11) (BA 0) (BA 1) (BA 3))) 2 (upd (rdF k (BS 11) x (BA 0) (BA 1) (BA 2)) k x)) (upd BS 12 (BS 12 ||| (1 <<< ((16 * BS 11 + BS 10) &&& 31)))) u)) (by decide +kernel) rfl ?_
          refine M.ald (n := 128) (f := BA 0) (j := k) (nx := 73) (by decide +kernel) rfl rfl (by omega) (by decide) ?_
          refine M.ast (n := 128) (f := rdR k (BS 11) (BA 0) (BA 1) (BA 3)) (j := k) (nx := 74) (by decide +kernel) rfl rfl (by omega) (by decide) ?_
          show g 0 0 74 [(0, .ref 113), (1, .int x), (2, .int (nI k))] [] (WX pgC pgL stC stL PA PS (va_up (va_up (va_up BA 1 (rdM k (BS 11) (BA 0) (BA 1))) 2 (upd (rdF k (BS 11) x (BA 0) (BA 1) (BA 2)) k x)) 3 (upd (rdR k (BS 11) (BA 0) (BA 1) (BA 3)) k ((BA 0) k))) (upd BS 12 (BS 12 ||| (1 <<< ((16 * BS 11 + BS 10) &&& 31)))) u)
          refine M.blk (is := [(.aload_n 0, 0, 0, 0), (.getfield 15, 0, 1, 0), (.iload_n 2, 2, 0, 0), (.dup2, 0, 0, 0)]) (pc1 := 80) (lo1 := [(0, .ref 113), (1, .int x), (2, .int (nI k))]) (st1 := [.int (nI k), .ref 115, .int (nI k), .ref 115]) (w1 := (WX pgC pgL stC stL PA PS (va_up (va_up (va_up BA 1 (rdM k (BS 11) (BA 0) (BA 1))) 2 (upd (rdF k (BS 11) x (BA 0) (BA 1) (BA 2)) k x)) 3 (upd (rdR k (BS 11) (BA 0) (BA 1) (BA 3)) k ((BA 0) k))) (upd BS 12 (BS 12 ||| (1 <<< ((16 * BS 11 + BS 10) &&& 31)))) u)) (by decide +kernel) rfl ?_
          refine M.ald (n := 128) (f := rdM k (BS 11) (BA 0) (BA 1)) (j := k) (nx := 81) (by decide +kernel) rfl rfl (by omega) (by decide) ?_
          rw [rd_self]
          refine M.blk (is := [(.iconst 1, 0, 0, 1), (.iadd, 0, 0, 0)]) (pc1 := 83) (lo1 := [(0, .ref 113), (1, .int x), (2, .int (nI k))]) (st1 := [.int ((BA 1 k) + 1), .int (nI k), .ref 115]) (w1 := (WX pgC pgL stC stL PA PS (va_up (va_up (va_up BA 1 (rdM k (BS 11) (BA 0) (BA 1))) 2 (upd (rdF k (BS 11) x (BA 0) (BA 1) (BA 2)) k x)) 3 (upd (rdR k (BS 11) (BA 0) (BA 1) (BA 3)) k ((BA 0) k))) (upd BS 12 (BS 12 ||| (1 <<< ((16 * BS 11 + BS 10) &&& 31)))) u)) (by decide +kernel) rfl ?_
          refine M.ast (n := 128) (f := rdM k (BS 11) (BA 0) (BA 1)) (j := k) (nx := 84) (by decide +kernel) rfl rfl (by omega) (by decide) ?_
          show g 0 0 84 [(0, .ref 113), (1, .int x), (2, .int (nI k))] [] (WX pgC pgL stC stL PA PS (va_up (va_up (va_up BA 2 (upd (rdF k (BS 11) x (BA 0) (BA 1) (BA 2)) k x)) 3 (upd (rdR k (BS 11) (BA 0) (BA 1) (BA 3)) k ((BA 0) k))) 1 (upd (rdM k (BS 11) (BA 0) (BA 1)) k ((BA 1 k) + 1))) (upd BS 12 (BS 12 ||| (1 <<< ((16 * BS 11 + BS 10) &&& 31)))) u)
          refine M.blk (is := [(.iinc 2 1, 2, 0, 1), (.goto (-62), 25, 0, 0)]) (pc1 := 25) (lo1 := [(2, .int ((nI k) + 1)), (0, .ref 113), (1, .int x)]) (st1 := []) (w1 := (WX pgC pgL stC stL PA PS (va_up (va_up (va_up BA 2 (upd (rdF k (BS 11) x (BA 0) (BA 1) (BA 2)) k x)) 3 (upd (rdR k (BS 11) (BA 0) (BA 1) (BA 3)) k ((BA 0) k))) 1 (upd (rdM k (BS 11) (BA 0) (BA 1)) k ((BA 1 k) + 1))) (upd BS 12 (BS 12 ||| (1 <<< ((16 * BS 11 + BS 10) &&& 31)))) u)) (by decide +kernel) rfl ?_
          refine M.lsub [1, 2, 0] (lo1 := [(0, .ref 113), (1, .int x), (2, .int ((nI k) + 1))]) rfl ?_
          rw [nI_1, rd_M z43, (rd_Ft (x := x) (F := BA 2) (R := BA 3) z43 z52).1, (rd_Ft (x := x) (F := BA 2) (R := BA 3) z43 z52).2]
          exact ih (k + 1) (by omega)
  show g 0 0 0 [(0, .ref 113), (1, .int x)] [] (WX pgC pgL stC stL PA PS BA BS u)
  refine M.blk (is := [(.aload_n 0, 0, 0, 0), (.dup, 0, 0, 0), (.getfield 86, 0, 12, 0), (.iconst 1, 0, 0, 1), (.bipush 16, 0, 0, 16), (.aload_n 0, 0, 0, 0), (.getfield 83, 0, 11, 0), (.imul, 0, 0, 0), (.aload_n 0, 0, 0, 0), (.getfield 80, 0, 10, 0), (.iadd, 0, 0, 0), (.ishl, 0, 0, 0), (.ior, 0, 0, 0), (.putfield 86, 0, 12, 0), (.iconst 0, 0, 0, 0), (.istore_n 2, 2, 0, 0)]) (pc1 := 25) (lo1 := [(2, .int 0), (0, .ref 113), (1, .int x)]) (st1 := []) (w1 := (WX pgC pgL stC stL PA PS BA (upd BS 12 ((BS 12) ||| ((1 : Int32) <<< (((16 * (BS 11)) + (BS 10)) &&& 31)))) u)) (by decide +kernel) rfl ?_
  refine M.lsub [1, 2, 0] (lo1 := [(0, .ref 113), (1, .int x), (2, .int 0)]) rfl ?_
  have e0 := lp P 0 (by omega)
  rw [(rd_0 (v := BS 11) (x := x) (B := BA 0) (M := BA 1) (F := BA 2) (R := BA 3)).1, (rd_0 (v := BS 11) (x := x) (B := BA 0) (M := BA 1) (F := BA 2) (R := BA 3)).2.1, (rd_0 (v := BS 11) (x := x) (B := BA 0) (M := BA 1) (F := BA 2) (R := BA 3)).2.2, va_up_id (f := BA) (k := 1) rfl, va_up_id (f := BA) (k := 2) rfl, va_up_id (f := BA) (k := 3) rfl] at e0
  exact e0
end BENCH
