section FOUND
variable {pgC : Nat → Int32} {pgL : Int32} {stC : Nat → Int32} {stL : Int32} {PA : Nat → Nat → Int32} {PS : Nat → Int32} {BA : Nat → Nat → Int32} {BS : Nat → Int32} {u : List Cl}
def wdB (q k : Nat) : Nat := q % 2 ^ k + (q / 2 ^ k) * 2 ^ (k + 1)
def isPt (κ p th : Nat) : Bool := decide (p < ptsN κ) && (if κ = 2 then decide (th / 2 ^ (p / 32) % 2 = 1) && decide (wdB (p / 2 % 8) (p / 32) &&& th = wdB (p / 2 % 8) (p / 32)) else decide (p / 2 &&& th = p / 2))
theorem ip_a : ∀ (p : Fin 32) (th : Fin 16), ((nI p.val >>> ((1 : Int32) &&& 31)) &&& (nI th.val ^^^ (-1)) = 0) ↔ (p.val / 2 &&& th.val = p.val / 2) := by decide +kernel
theorem ip_b : ∀ (p : Fin 128) (th : Fin 16), ((nI th.val >>> ((nI p.val >>> ((5 : Int32) &&& 31)) &&& 31)) &&& 1 = 1) ↔ (th.val / 2 ^ (p.val / 32) % 2 = 1) := by decide +kernel
theorem ip_c : ∀ (p : Fin 128) (th : Fin 16), (((((nI p.val >>> ((1 : Int32) &&& 31)) &&& 7) &&& (((1 : Int32) <<< ((nI p.val >>> ((5 : Int32) &&& 31)) &&& 31)) - 1)) ||| ((((nI p.val >>> ((1 : Int32) &&& 31)) &&& 7) &&& ((((1 : Int32) <<< ((nI p.val >>> ((5 : Int32) &&& 31)) &&& 31)) - 1) ^^^ (-1))) <<< ((1 : Int32) &&& 31))) &&& (nI th.val ^^^ (-1)) = 0) ↔ (wdB (p.val / 2 % 8) (p.val / 32) &&& th.val = wdB (p.val / 2 % 8) (p.val / 32)) := by decide +kernel
theorem parts_nI {κ : Nat} (h : κ ≤ 3) : partsI (nI κ) = nI (ptsN κ) := by
  rcases (show κ = 0 ∨ κ = 1 ∨ κ = 2 ∨ κ = 3 by omega) with rfl | rfl | rfl | rfl <;> rfl
theorem isPt_no {κ p th : Nat} (h : ¬ p < ptsN κ) : isPt κ p th = false := by unfold isPt; rw [decide_eq_false h]; rfl
theorem isP_n {κ p th : Nat} (hlt : p < ptsN κ) (ht : th < 16) (h2 : ¬ κ = 2) (h : ¬ (nI p >>> ((1 : Int32) &&& 31)) &&& (nI th ^^^ (-1)) = 0) : some (Value.int 0) = some (.int (b2i (isPt κ p th))) := by
  have hp : p < 32 := by unfold ptsN at hlt; split at hlt <;> (try split at hlt) <;> (try split at hlt) <;> omega
  unfold isPt
  rw [decide_eq_true hlt, if_neg h2, decide_eq_false (fun e => h ((ip_a ⟨p, hp⟩ ⟨th, ht⟩).mpr e))]
  rfl
theorem isP_y {κ p th : Nat} (hlt : p < ptsN κ) (ht : th < 16) (h2 : ¬ κ = 2) (hk : κ ≤ 3) (h : (nI p >>> ((1 : Int32) &&& 31)) &&& (nI th ^^^ (-1)) = 0) : some (Value.int 1) = some (.int (b2i (isPt κ p th))) := by
  have hp : p < 32 := by unfold ptsN at hlt; split at hlt <;> (try split at hlt) <;> (try split at hlt) <;> omega
  unfold isPt
  rw [decide_eq_true hlt, if_neg h2, decide_eq_true ((ip_a ⟨p, hp⟩ ⟨th, ht⟩).mp h)]
  rfl
theorem isP_2a {κ p th : Nat} (hlt : p < ptsN κ) (h2 : κ = 2) (ht : th < 16) (h : ¬ (nI th >>> ((nI p >>> ((5 : Int32) &&& 31)) &&& 31)) &&& 1 = 1) : some (Value.int 0) = some (.int (b2i (isPt κ p th))) := by
  subst h2
  have hp : p < 128 := hlt
  unfold isPt
  rw [decide_eq_true hlt, if_pos rfl, decide_eq_false (fun e => h ((ip_b ⟨p, hp⟩ ⟨th, ht⟩).mpr e))]
  rfl
theorem isP_2b {κ p th : Nat} (hlt : p < ptsN κ) (h2 : κ = 2) (ht : th < 16) (h : (nI th >>> ((nI p >>> ((5 : Int32) &&& 31)) &&& 31)) &&& 1 = 1) (h3 : ¬ ((((nI p >>> ((1 : Int32) &&& 31)) &&& 7) &&& (((1 : Int32) <<< ((nI p >>> ((5 : Int32) &&& 31)) &&& 31)) - 1)) ||| ((((nI p >>> ((1 : Int32) &&& 31)) &&& 7) &&& ((((1 : Int32) <<< ((nI p >>> ((5 : Int32) &&& 31)) &&& 31)) - 1) ^^^ (-1))) <<< ((1 : Int32) &&& 31))) &&& (nI th ^^^ (-1)) = 0) : some (Value.int 0) = some (.int (b2i (isPt κ p th))) := by
  subst h2
  have hp : p < 128 := hlt
  unfold isPt
  rw [decide_eq_true hlt, if_pos rfl, decide_eq_true ((ip_b ⟨p, hp⟩ ⟨th, ht⟩).mp h), decide_eq_false (fun e => h3 ((ip_c ⟨p, hp⟩ ⟨th, ht⟩).mpr e))]
  rfl
theorem isP_2c {κ p th : Nat} (hlt : p < ptsN κ) (h2 : κ = 2) (ht : th < 16) (h : (nI th >>> ((nI p >>> ((5 : Int32) &&& 31)) &&& 31)) &&& 1 = 1) (h3 : ((((nI p >>> ((1 : Int32) &&& 31)) &&& 7) &&& (((1 : Int32) <<< ((nI p >>> ((5 : Int32) &&& 31)) &&& 31)) - 1)) ||| ((((nI p >>> ((1 : Int32) &&& 31)) &&& 7) &&& ((((1 : Int32) <<< ((nI p >>> ((5 : Int32) &&& 31)) &&& 31)) - 1) ^^^ (-1))) <<< ((1 : Int32) &&& 31))) &&& (nI th ^^^ (-1)) = 0) : some (Value.int 1) = some (.int (b2i (isPt κ p th))) := by
  subst h2
  have hp : p < 128 := hlt
  unfold isPt
  rw [decide_eq_true hlt, if_pos rfl, decide_eq_true ((ip_b ⟨p, hp⟩ ⟨th, ht⟩).mp h), decide_eq_true ((ip_c ⟨p, hp⟩ ⟨th, ht⟩).mp h3)]
  rfl
theorem s_isPart (w0 : Wd) {κ p th : Nat} (hk : κ ≤ 3) (hp : p < 300) (ht : th < 16) : CC 1 mX3_isPart 0 0 [.int (nI κ), .int (nI p), .int (nI th)] w0 (Rt (b2i (isPt κ p th)) w0) := by
  have hpl := ptsN_le κ
  refine CC.of okX3_isPart.1 (Nat.le_of_ble_eq_true rfl) (fun g M => ?_)
  show g 0 0 0 [(0, .int (nI κ)), (1, .int (nI p)), (2, .int (nI th))] [] w0
  refine M.blk (is := [(.iload_n 1, 1, 0, 0)]) (pc1 := 1) (lo1 := [(0, .int (nI κ)), (1, .int (nI p)), (2, .int (nI th))]) (st1 := [.int (nI p)]) (w1 := w0) (by decide +kernel) rfl ?_
  refine M.if_lt (off := 11) (tgt := 12) (nx := 4) (by decide +kernel) (fun z1 => by exfalso; exact nI_pos (by omega) z1) (fun z1 => ?_)
  refine M.blk (is := [(.iload_n 1, 1, 0, 0), (.iload_n 0, 0, 0, 0)]) (pc1 := 6) (lo1 := [(0, .int (nI κ)), (1, .int (nI p)), (2, .int (nI th))]) (st1 := [.int (nI κ), .int (nI p)]) (w1 := w0) (by decide +kernel) rfl ?_
  refine M.callSi (as := [.int (nI κ)]) (st := [.int (nI p)]) (nx := 9) okX3_partsOf lkX3_194 (s_partsOf w0 (nI κ)) (by decide +kernel) (by decide) rfl (Nat.le_of_ble_eq_true rfl) ?_
  rw [parts_nI hk]
  refine M.icmp_lt (off := 5) (tgt := 14) (nx := 12) (by decide +kernel) (fun z9 => ?_) (fun z9 => ?_)
  · have hlt : p < ptsN κ := (nI_ltI (by omega) (by omega)).mp z9
    refine M.blk (is := [(.iload_n 0, 0, 0, 0), (.iconst 2, 0, 0, 2)]) (pc1 := 16) (lo1 := [(0, .int (nI κ)), (1, .int (nI p)), (2, .int (nI th))]) (st1 := [.int 2, .int (nI κ)]) (w1 := w0) (by decide +kernel) rfl ?_
    refine M.icmp_eq (off := 19) (tgt := 35) (nx := 19) (by decide +kernel) (fun z16 => ?_) (fun z16 => ?_)
    · have hk2 : κ = 2 := nI_inj (by omega) (by decide) z16
      refine M.blk (is := [(.iload_n 1, 1, 0, 0), (.iconst 5, 0, 0, 5), (.ishr, 0, 0, 0), (.istore_n 3, 3, 0, 0), (.iload_n 1, 1, 0, 0), (.iconst 1, 0, 0, 1), (.ishr, 0, 0, 0), (.bipush 7, 0, 0, 7), (.iand, 0, 0, 0), (.istore 4, 4, 0, 0), (.iconst 1, 0, 0, 1), (.iload_n 3, 3, 0, 0), (.ishl, 0, 0, 0), (.iconst 1, 0, 0, 1), (.isub, 0, 0, 0), (.istore 5, 5, 0, 0), (.iload 4, 4, 0, 0), (.iload 5, 5, 0, 0), (.iand, 0, 0, 0), (.iload 4, 4, 0, 0), (.iload 5, 5, 0, 0), (.iconst (-1), 0, 0, (-1)), (.ixor, 0, 0, 0), (.iand, 0, 0, 0), (.iconst 1, 0, 0, 1), (.ishl, 0, 0, 0), (.ior, 0, 0, 0), (.istore 6, 6, 0, 0), (.iload_n 2, 2, 0, 0), (.iload_n 3, 3, 0, 0), (.ishr, 0, 0, 0), (.iconst 1, 0, 0, 1), (.iand, 0, 0, 0), (.iconst 1, 0, 0, 1)]) (pc1 := 77) (lo1 := [(6, .int (((((nI p) >>> ((1 : Int32) &&& 31)) &&& 7) &&& (((1 : Int32) <<< (((nI p) >>> ((5 : Int32) &&& 31)) &&& 31)) - 1)) ||| (((((nI p) >>> ((1 : Int32) &&& 31)) &&& 7) &&& ((((1 : Int32) <<< (((nI p) >>> ((5 : Int32) &&& 31)) &&& 31)) - 1) ^^^ (-1))) <<< ((1 : Int32) &&& 31)))), (5, .int (((1 : Int32) <<< (((nI p) >>> ((5 : Int32) &&& 31)) &&& 31)) - 1)), (4, .int (((nI p) >>> ((1 : Int32) &&& 31)) &&& 7)), (3, .int ((nI p) >>> ((5 : Int32) &&& 31))), (0, .int (nI κ)), (1, .int (nI p)), (2, .int (nI th))]) (st1 := [.int 1, .int (((nI th) >>> (((nI p) >>> ((5 : Int32) &&& 31)) &&& 31)) &&& 1)]) (w1 := w0) (by decide +kernel) rfl ?_
      refine M.icmp_ne (off := 16) (tgt := 93) (nx := 80) (by decide +kernel) (fun z77 => ?_) (fun z77 => ?_)
      · refine M.blk (is := [(.iconst 0, 0, 0, 0)]) (pc1 := 94) (lo1 := [(6, .int (((((nI p) >>> ((1 : Int32) &&& 31)) &&& 7) &&& (((1 : Int32) <<< (((nI p) >>> ((5 : Int32) &&& 31)) &&& 31)) - 1)) ||| (((((nI p) >>> ((1 : Int32) &&& 31)) &&& 7) &&& ((((1 : Int32) <<< (((nI p) >>> ((5 : Int32) &&& 31)) &&& 31)) - 1) ^^^ (-1))) <<< ((1 : Int32) &&& 31)))), (5, .int (((1 : Int32) <<< (((nI p) >>> ((5 : Int32) &&& 31)) &&& 31)) - 1)), (4, .int (((nI p) >>> ((1 : Int32) &&& 31)) &&& 7)), (3, .int ((nI p) >>> ((5 : Int32) &&& 31))), (0, .int (nI κ)), (1, .int (nI p)), (2, .int (nI th))]) (st1 := [.int 0]) (w1 := w0) (by decide +kernel) rfl ?_
        exact M.retz (nx := 95) (by decide +kernel) (by decide) ⟨isP_2a hlt hk2 ht z77, rfl⟩
      · refine M.blk (is := [(.iload 6, 6, 0, 0), (.iload_n 2, 2, 0, 0), (.iconst (-1), 0, 0, (-1)), (.ixor, 0, 0, 0), (.iand, 0, 0, 0)]) (pc1 := 86) (lo1 := [(6, .int (((((nI p) >>> ((1 : Int32) &&& 31)) &&& 7) &&& (((1 : Int32) <<< (((nI p) >>> ((5 : Int32) &&& 31)) &&& 31)) - 1)) ||| (((((nI p) >>> ((1 : Int32) &&& 31)) &&& 7) &&& ((((1 : Int32) <<< (((nI p) >>> ((5 : Int32) &&& 31)) &&& 31)) - 1) ^^^ (-1))) <<< ((1 : Int32) &&& 31)))), (5, .int (((1 : Int32) <<< (((nI p) >>> ((5 : Int32) &&& 31)) &&& 31)) - 1)), (4, .int (((nI p) >>> ((1 : Int32) &&& 31)) &&& 7)), (3, .int ((nI p) >>> ((5 : Int32) &&& 31))), (0, .int (nI κ)), (1, .int (nI p)), (2, .int (nI th))]) (st1 := [.int ((((((nI p) >>> ((1 : Int32) &&& 31)) &&& 7) &&& (((1 : Int32) <<< (((nI p) >>> ((5 : Int32) &&& 31)) &&& 31)) - 1)) ||| (((((nI p) >>> ((1 : Int32) &&& 31)) &&& 7) &&& ((((1 : Int32) <<< (((nI p) >>> ((5 : Int32) &&& 31)) &&& 31)) - 1) ^^^ (-1))) <<< ((1 : Int32) &&& 31))) &&& ((nI th) ^^^ (-1)))]) (w1 := w0) (by decide +kernel) rfl ?_
        refine M.if_ne (off := 7) (tgt := 93) (nx := 89) (by decide +kernel) (fun z86 => ?_) (fun z86 => ?_)
        · refine M.blk (is := [(.iconst 0, 0, 0, 0)]) (pc1 := 94) (lo1 := [(6, .int (((((nI p) >>> ((1 : Int32) &&& 31)) &&& 7) &&& (((1 : Int32) <<< (((nI p) >>> ((5 : Int32) &&& 31)) &&& 31)) - 1)) ||| (((((nI p) >>> ((1 : Int32) &&& 31)) &&& 7) &&& ((((1 : Int32) <<< (((nI p) >>> ((5 : Int32) &&& 31)) &&& 31)) - 1) ^^^ (-1))) <<< ((1 : Int32) &&& 31)))), (5, .int (((1 : Int32) <<< (((nI p) >>> ((5 : Int32) &&& 31)) &&& 31)) - 1)), (4, .int (((nI p) >>> ((1 : Int32) &&& 31)) &&& 7)), (3, .int ((nI p) >>> ((5 : Int32) &&& 31))), (0, .int (nI κ)), (1, .int (nI p)), (2, .int (nI th))]) (st1 := [.int 0]) (w1 := w0) (by decide +kernel) rfl ?_
          exact M.retz (nx := 95) (by decide +kernel) (by decide) ⟨isP_2b hlt hk2 ht z77 z86, rfl⟩
        · refine M.blk (is := [(.iconst 1, 0, 0, 1), (.goto 4, 94, 0, 0)]) (pc1 := 94) (lo1 := [(6, .int (((((nI p) >>> ((1 : Int32) &&& 31)) &&& 7) &&& (((1 : Int32) <<< (((nI p) >>> ((5 : Int32) &&& 31)) &&& 31)) - 1)) ||| (((((nI p) >>> ((1 : Int32) &&& 31)) &&& 7) &&& ((((1 : Int32) <<< (((nI p) >>> ((5 : Int32) &&& 31)) &&& 31)) - 1) ^^^ (-1))) <<< ((1 : Int32) &&& 31)))), (5, .int (((1 : Int32) <<< (((nI p) >>> ((5 : Int32) &&& 31)) &&& 31)) - 1)), (4, .int (((nI p) >>> ((1 : Int32) &&& 31)) &&& 7)), (3, .int ((nI p) >>> ((5 : Int32) &&& 31))), (0, .int (nI κ)), (1, .int (nI p)), (2, .int (nI th))]) (st1 := [.int 1]) (w1 := w0) (by decide +kernel) rfl ?_
          exact M.retz (nx := 95) (by decide +kernel) (by decide) ⟨isP_2c hlt hk2 ht z77 z86, rfl⟩
    · refine M.blk (is := [(.iload_n 1, 1, 0, 0), (.iconst 1, 0, 0, 1), (.ishr, 0, 0, 0), (.iload_n 2, 2, 0, 0), (.iconst (-1), 0, 0, (-1)), (.ixor, 0, 0, 0), (.iand, 0, 0, 0)]) (pc1 := 26) (lo1 := [(0, .int (nI κ)), (1, .int (nI p)), (2, .int (nI th))]) (st1 := [.int (((nI p) >>> ((1 : Int32) &&& 31)) &&& ((nI th) ^^^ (-1)))]) (w1 := w0) (by decide +kernel) rfl ?_
      refine M.if_ne (off := 7) (tgt := 33) (nx := 29) (by decide +kernel) (fun z26 => ?_) (fun z26 => ?_)
      · refine M.blk (is := [(.iconst 0, 0, 0, 0)]) (pc1 := 34) (lo1 := [(0, .int (nI κ)), (1, .int (nI p)), (2, .int (nI th))]) (st1 := [.int 0]) (w1 := w0) (by decide +kernel) rfl ?_
        exact M.retz (nx := 35) (by decide +kernel) (by decide) ⟨isP_n hlt ht (fun e => z16 (by rw [e]; rfl)) z26, rfl⟩
      · refine M.blk (is := [(.iconst 1, 0, 0, 1), (.goto 4, 34, 0, 0)]) (pc1 := 34) (lo1 := [(0, .int (nI κ)), (1, .int (nI p)), (2, .int (nI th))]) (st1 := [.int 1]) (w1 := w0) (by decide +kernel) rfl ?_
        exact M.retz (nx := 35) (by decide +kernel) (by decide) ⟨isP_y hlt ht (fun e => z16 (by rw [e]; rfl)) hk z26, rfl⟩
  · refine M.blk (is := [(.iconst 0, 0, 0, 0)]) (pc1 := 13) (lo1 := [(0, .int (nI κ)), (1, .int (nI p)), (2, .int (nI th))]) (st1 := [.int 0]) (w1 := w0) (by decide +kernel) rfl ?_
    exact M.retz (nx := 14) (by decide +kernel) (by decide) ⟨by rw [isPt_no (fun h => z9 (nI_lt h (by omega)))]; rfl, rfl⟩
theorem x_missesOf {p n : Nat} (h8 : BS 8 = nI n) (hn : n ≤ 128) (hp : p < n) : CC 0 mX0_missesOf 0 0 [.ref 113, .int (nI p)] (WX pgC pgL stC stL PA PS BA BS u) (Rt (BA 1 p) (WX pgC pgL stC stL PA PS BA BS u)) := by
  refine CC.of okX0_missesOf.1 (Nat.le_of_ble_eq_true rfl) (fun g M => ?_)
  show g 0 0 0 [(0, .ref 113), (1, .int (nI p))] [] (WX pgC pgL stC stL PA PS BA BS u)
  refine M.blk (is := [(.iload_n 1, 1, 0, 0)]) (pc1 := 1) (lo1 := [(0, .ref 113), (1, .int (nI p))]) (st1 := [.int (nI p)]) (w1 := (WX pgC pgL stC stL PA PS BA BS u)) (by decide +kernel) rfl ?_
  refine M.if_lt (off := 20) (tgt := 21) (nx := 4) (by decide +kernel) (fun z1 => by exfalso; exact nI_pos (by omega) z1) (fun z1 => ?_)
  refine M.blk (is := [(.iload_n 1, 1, 0, 0), (.aload_n 0, 0, 0, 0), (.getfield 70, 0, 8, 0)]) (pc1 := 9) (lo1 := [(0, .ref 113), (1, .int (nI p))]) (st1 := [.int (BS 8), .int (nI p)]) (w1 := (WX pgC pgL stC stL PA PS BA BS u)) (by decide +kernel) rfl ?_
  refine M.icmp_ge (off := 12) (tgt := 21) (nx := 12) (by decide +kernel) (fun z9 => by exfalso; rw [h8] at z9; exact nI_ge hp (by omega) z9) (fun z9 => ?_)
  refine M.blk (is := [(.aload_n 0, 0, 0, 0), (.getfield 15, 0, 1, 0), (.iload_n 1, 1, 0, 0)]) (pc1 := 17) (lo1 := [(0, .ref 113), (1, .int (nI p))]) (st1 := [.int (nI p), .ref 115]) (w1 := (WX pgC pgL stC stL PA PS BA BS u)) (by decide +kernel) rfl ?_
  refine M.ald (n := 128) (f := BA 1) (j := p) (nx := 18) (by decide +kernel) rfl rfl (by omega) (by decide) ?_
  refine M.blk (is := [(.goto 4, 22, 0, 0)]) (pc1 := 22) (lo1 := [(0, .ref 113), (1, .int (nI p))]) (st1 := [.int ((BA 1) p)]) (w1 := (WX pgC pgL stC stL PA PS BA BS u)) (by decide +kernel) rfl ?_
  exact M.reti (nx := 23) (by decide +kernel) ⟨rfl, rfl⟩
theorem x_firstStepOf {p n : Nat} (h8 : BS 8 = nI n) (hn : n ≤ 128) (hp : p < n) : CC 0 mX0_firstStepOf 0 0 [.ref 113, .int (nI p)] (WX pgC pgL stC stL PA PS BA BS u) (Rt (BA 2 p) (WX pgC pgL stC stL PA PS BA BS u)) := by
  refine CC.of okX0_firstStepOf.1 (Nat.le_of_ble_eq_true rfl) (fun g M => ?_)
  show g 0 0 0 [(0, .ref 113), (1, .int (nI p))] [] (WX pgC pgL stC stL PA PS BA BS u)
  refine M.blk (is := [(.iload_n 1, 1, 0, 0)]) (pc1 := 1) (lo1 := [(0, .ref 113), (1, .int (nI p))]) (st1 := [.int (nI p)]) (w1 := (WX pgC pgL stC stL PA PS BA BS u)) (by decide +kernel) rfl ?_
  refine M.if_lt (off := 20) (tgt := 21) (nx := 4) (by decide +kernel) (fun z1 => by exfalso; exact nI_pos (by omega) z1) (fun z1 => ?_)
  refine M.blk (is := [(.iload_n 1, 1, 0, 0), (.aload_n 0, 0, 0, 0), (.getfield 70, 0, 8, 0)]) (pc1 := 9) (lo1 := [(0, .ref 113), (1, .int (nI p))]) (st1 := [.int (BS 8), .int (nI p)]) (w1 := (WX pgC pgL stC stL PA PS BA BS u)) (by decide +kernel) rfl ?_
  refine M.icmp_ge (off := 12) (tgt := 21) (nx := 12) (by decide +kernel) (fun z9 => by exfalso; rw [h8] at z9; exact nI_ge hp (by omega) z9) (fun z9 => ?_)
  refine M.blk (is := [(.aload_n 0, 0, 0, 0), (.getfield 18, 0, 2, 0), (.iload_n 1, 1, 0, 0)]) (pc1 := 17) (lo1 := [(0, .ref 113), (1, .int (nI p))]) (st1 := [.int (nI p), .ref 116]) (w1 := (WX pgC pgL stC stL PA PS BA BS u)) (by decide +kernel) rfl ?_
  refine M.ald (n := 128) (f := BA 2) (j := p) (nx := 18) (by decide +kernel) rfl rfl (by omega) (by decide) ?_
  refine M.blk (is := [(.goto 4, 22, 0, 0)]) (pc1 := 22) (lo1 := [(0, .ref 113), (1, .int (nI p))]) (st1 := [.int ((BA 2) p)]) (w1 := (WX pgC pgL stC stL PA PS BA BS u)) (by decide +kernel) rfl ?_
  exact M.reti (nx := 23) (by decide +kernel) ⟨rfl, rfl⟩
theorem x_firstReadOf {p n : Nat} (h8 : BS 8 = nI n) (hn : n ≤ 128) (hp : p < n) : CC 0 mX0_firstReadOf 0 0 [.ref 113, .int (nI p)] (WX pgC pgL stC stL PA PS BA BS u) (Rt (BA 3 p) (WX pgC pgL stC stL PA PS BA BS u)) := by
  refine CC.of okX0_firstReadOf.1 (Nat.le_of_ble_eq_true rfl) (fun g M => ?_)
  show g 0 0 0 [(0, .ref 113), (1, .int (nI p))] [] (WX pgC pgL stC stL PA PS BA BS u)
  refine M.blk (is := [(.iload_n 1, 1, 0, 0)]) (pc1 := 1) (lo1 := [(0, .ref 113), (1, .int (nI p))]) (st1 := [.int (nI p)]) (w1 := (WX pgC pgL stC stL PA PS BA BS u)) (by decide +kernel) rfl ?_
  refine M.if_lt (off := 20) (tgt := 21) (nx := 4) (by decide +kernel) (fun z1 => by exfalso; exact nI_pos (by omega) z1) (fun z1 => ?_)
  refine M.blk (is := [(.iload_n 1, 1, 0, 0), (.aload_n 0, 0, 0, 0), (.getfield 70, 0, 8, 0)]) (pc1 := 9) (lo1 := [(0, .ref 113), (1, .int (nI p))]) (st1 := [.int (BS 8), .int (nI p)]) (w1 := (WX pgC pgL stC stL PA PS BA BS u)) (by decide +kernel) rfl ?_
  refine M.icmp_ge (off := 12) (tgt := 21) (nx := 12) (by decide +kernel) (fun z9 => by exfalso; rw [h8] at z9; exact nI_ge hp (by omega) z9) (fun z9 => ?_)
  refine M.blk (is := [(.aload_n 0, 0, 0, 0), (.getfield 21, 0, 3, 0), (.iload_n 1, 1, 0, 0)]) (pc1 := 17) (lo1 := [(0, .ref 113), (1, .int (nI p))]) (st1 := [.int (nI p), .ref 117]) (w1 := (WX pgC pgL stC stL PA PS BA BS u)) (by decide +kernel) rfl ?_
  refine M.ald (n := 128) (f := BA 3) (j := p) (nx := 18) (by decide +kernel) rfl rfl (by omega) (by decide) ?_
  refine M.blk (is := [(.goto 4, 22, 0, 0)]) (pc1 := 22) (lo1 := [(0, .ref 113), (1, .int (nI p))]) (st1 := [.int ((BA 3) p)]) (w1 := (WX pgC pgL stC stL PA PS BA BS u)) (by decide +kernel) rfl ?_
  exact M.reti (nx := 23) (by decide +kernel) ⟨rfl, rfl⟩
theorem x_lastBitOf {p n : Nat} (h8 : BS 8 = nI n) (hn : n ≤ 128) (hp : p < n) : CC 0 mX0_lastBitOf 0 0 [.ref 113, .int (nI p)] (WX pgC pgL stC stL PA PS BA BS u) (Rt (BA 0 p) (WX pgC pgL stC stL PA PS BA BS u)) := by
  refine CC.of okX0_lastBitOf.1 (Nat.le_of_ble_eq_true rfl) (fun g M => ?_)
  show g 0 0 0 [(0, .ref 113), (1, .int (nI p))] [] (WX pgC pgL stC stL PA PS BA BS u)
  refine M.blk (is := [(.iload_n 1, 1, 0, 0)]) (pc1 := 1) (lo1 := [(0, .ref 113), (1, .int (nI p))]) (st1 := [.int (nI p)]) (w1 := (WX pgC pgL stC stL PA PS BA BS u)) (by decide +kernel) rfl ?_
  refine M.if_lt (off := 20) (tgt := 21) (nx := 4) (by decide +kernel) (fun z1 => by exfalso; exact nI_pos (by omega) z1) (fun z1 => ?_)
  refine M.blk (is := [(.iload_n 1, 1, 0, 0), (.aload_n 0, 0, 0, 0), (.getfield 70, 0, 8, 0)]) (pc1 := 9) (lo1 := [(0, .ref 113), (1, .int (nI p))]) (st1 := [.int (BS 8), .int (nI p)]) (w1 := (WX pgC pgL stC stL PA PS BA BS u)) (by decide +kernel) rfl ?_
  refine M.icmp_ge (off := 12) (tgt := 21) (nx := 12) (by decide +kernel) (fun z9 => by exfalso; rw [h8] at z9; exact nI_ge hp (by omega) z9) (fun z9 => ?_)
  refine M.blk (is := [(.aload_n 0, 0, 0, 0), (.getfield 9, 0, 0, 0), (.iload_n 1, 1, 0, 0)]) (pc1 := 17) (lo1 := [(0, .ref 113), (1, .int (nI p))]) (st1 := [.int (nI p), .ref 114]) (w1 := (WX pgC pgL stC stL PA PS BA BS u)) (by decide +kernel) rfl ?_
  refine M.ald (n := 128) (f := BA 0) (j := p) (nx := 18) (by decide +kernel) rfl rfl (by omega) (by decide) ?_
  refine M.blk (is := [(.goto 4, 22, 0, 0)]) (pc1 := 22) (lo1 := [(0, .ref 113), (1, .int (nI p))]) (st1 := [.int ((BA 0) p)]) (w1 := (WX pgC pgL stC stL PA PS BA BS u)) (by decide +kernel) rfl ?_
  exact M.reti (nx := 23) (by decide +kernel) ⟨rfl, rfl⟩
def hmC (κ th k : Nat) : Nat := match k with
  | 0 => 0
  | k + 1 => hmC κ th k + (if isPt κ k th = true then 1 else 0)
def hmM (κ th : Nat) (M : Nat → Int32) (k : Nat) : Nat := match k with
  | 0 => 0
  | k + 1 => hmM κ th M k + (if 0 < M k ∧ isPt κ k th = true then 1 else 0)
def lhS (κ th : Nat) (M : Nat → Int32) (m k : Nat) : Option Nat := match m with
  | 0 => none
  | m + 1 => if M k = 0 ∧ isPt κ k th = true then some k else lhS κ th M m (k + 1)
def ltF (κ th : Nat) (M F : Nat → Int32) (k : Nat) : Int32 := match k with
  | 0 => -1
  | k + 1 => if 0 < M k ∧ isPt κ k th = true then (if ltF κ th M F k < F k then F k else ltF κ th M F k) else ltF κ th M F k
theorem isPt_lt {κ p th : Nat} (h : isPt κ p th = true) : p < ptsN κ := by
  unfold isPt at h
  rw [Bool.and_eq_true] at h
  exact of_decide_eq_true h.1
theorem lhS_succ (κ th : Nat) (M : Nat → Int32) (m k : Nat) : lhS κ th M (m + 1) k = if M k = 0 ∧ isPt κ k th = true then some k else lhS κ th M m (k + 1) := rfl
theorem pts_lt3 {κ k : Nat} (h : k < ptsN κ) (h3 : κ ≤ 3) : κ < 3 := by
  rcases (show κ < 3 ∨ κ = 3 by omega) with e | e
  · exact e
  · subst e; exact absurd h (Nat.not_lt_zero _)
theorem kI_nI {κ : Nat} (h : κ < 3) : kI κ = nI κ := by
  rcases (show κ = 0 ∨ κ = 1 ∨ κ = 2 by omega) with rfl | rfl | rfl <;> rfl
theorem x_howMany {κ th : Nat} {Mf : Nat → Int32} (h7 : BS 7 = kI κ) (hκ : κ ≤ 3) (h8 : BS 8 = nI (ptsN κ)) (h9 : BS 9 = nI th) (ht : th < 16) (hM : ∀ p, p < ptsN κ → BA 1 p = Mf p) : CC 2 mX0_howMany 0 0 [.ref 113] (WX pgC pgL stC stL PA PS BA BS u) (Rt (nI (hmC κ th (ptsN κ))) (WX pgC pgL stC stL PA PS BA BS u)) := by
  have hP := ptsN_le κ
  refine CC.of okX0_howMany.1 (Nat.le_of_ble_eq_true rfl) (fun g M => ?_)
  have lp : ∀ m k, k + m = ptsN κ → g 0 0 4 [(0, .ref 113), (1, .int (nI (hmC κ th k))), (2, .int (nI k))] [] (WX pgC pgL stC stL PA PS BA BS u) := by
    intro m
    induction m with
    | zero =>
      intro k hk
      have ek : ptsN κ = k := by omega
      rw [← ek]
      refine M.blk (is := [(.iload_n 2, 2, 0, 0), (.aload_n 0, 0, 0, 0), (.getfield 70, 0, 8, 0)]) (pc1 := 9) (lo1 := [(0, .ref 113), (1, .int (nI (hmC κ th (ptsN κ)))), (2, .int (nI (ptsN κ)))]) (st1 := [.int (BS 8), .int (nI (ptsN κ))]) (w1 := (WX pgC pgL stC stL PA PS BA BS u)) (by decide +kernel) rfl ?_
      refine M.icmp_ge (off := 27) (tgt := 36) (nx := 12) (by decide +kernel) (fun z9 => ?_) (fun z9 => by exfalso; exact z9 (by rw [h8]; exact nI_le (Nat.le_refl _) (by omega)))
      refine M.blk (is := [(.iload_n 1, 1, 0, 0)]) (pc1 := 37) (lo1 := [(0, .ref 113), (1, .int (nI (hmC κ th (ptsN κ)))), (2, .int (nI (ptsN κ)))]) (st1 := [.int (nI (hmC κ th (ptsN κ)))]) (w1 := (WX pgC pgL stC stL PA PS BA BS u)) (by decide +kernel) rfl ?_
      exact M.reti (nx := 38) (by decide +kernel) ⟨rfl, rfl⟩
    | succ m ih =>
      intro k hk
      have hkp : k < ptsN κ := by omega
      have hk7 := h7.trans (kI_nI (pts_lt3 hkp hκ))
      have hMk := hM k hkp
      refine M.blk (is := [(.iload_n 2, 2, 0, 0), (.aload_n 0, 0, 0, 0), (.getfield 70, 0, 8, 0)]) (pc1 := 9) (lo1 := [(0, .ref 113), (1, .int (nI (hmC κ th k))), (2, .int (nI k))]) (st1 := [.int (BS 8), .int (nI k)]) (w1 := (WX pgC pgL stC stL PA PS BA BS u)) (by decide +kernel) rfl ?_
      refine M.icmp_ge (off := 27) (tgt := 36) (nx := 12) (by decide +kernel) (fun z9 => by exfalso; rw [h8] at z9; exact nI_ge hkp (by omega) z9) (fun z9 => ?_)
      refine M.blk (is := [(.aload_n 0, 0, 0, 0), (.getfield 35, 0, 7, 0), (.iload_n 2, 2, 0, 0), (.aload_n 0, 0, 0, 0), (.getfield 78, 0, 9, 0)]) (pc1 := 21) (lo1 := [(0, .ref 113), (1, .int (nI (hmC κ th k))), (2, .int (nI k))]) (st1 := [.int (BS 9), .int (nI k), .int (BS 7)]) (w1 := (WX pgC pgL stC stL PA PS BA BS u)) (by decide +kernel) rfl ?_
      rw [hk7, h9]
      refine M.callSi (as := [.int (nI κ), .int (nI k), .int (nI th)]) (st := []) (nx := 24) okX3_isPart lkX0_119 (s_isPart (WX pgC pgL stC stL PA PS BA BS u) (κ := κ) (p := k) (th := th) hκ (by omega) ht) (by decide +kernel) (by decide) rfl (Nat.le_of_ble_eq_true rfl) ?_
      refine M.if_eq (off := 6) (tgt := 30) (nx := 27) (by decide +kernel) (fun z24 => ?_) (fun z24 => ?_)
      · refine M.blk (is := [(.iinc 2 1, 2, 0, 1), (.goto (-29), 4, 0, 0)]) (pc1 := 4) (lo1 := [(2, .int ((nI k) + 1)), (0, .ref 113), (1, .int (nI (hmC κ th k)))]) (st1 := []) (w1 := (WX pgC pgL stC stL PA PS BA BS u)) (by decide +kernel) rfl ?_
        refine M.lsub [1, 2, 0] (lo1 := [(0, .ref 113), (1, .int (nI (hmC κ th k))), (2, .int ((nI k) + 1))]) rfl ?_
        rw [nI_1]
        have e := ih (k + 1) (by omega)
        rw [show hmC κ th (k + 1) = hmC κ th k + (if isPt κ k th = true then 1 else 0) from rfl, if_neg (b2i_f z24)] at e
        exact e
      · refine M.blk (is := [(.iinc 1 1, 1, 0, 1), (.iinc 2 1, 2, 0, 1), (.goto (-29), 4, 0, 0)]) (pc1 := 4) (lo1 := [(2, .int ((nI k) + 1)), (1, .int ((nI (hmC κ th k)) + 1)), (0, .ref 113)]) (st1 := []) (w1 := (WX pgC pgL stC stL PA PS BA BS u)) (by decide +kernel) rfl ?_
        refine M.lsub [2, 1, 0] (lo1 := [(0, .ref 113), (1, .int ((nI (hmC κ th k)) + 1)), (2, .int ((nI k) + 1))]) rfl ?_
        rw [nI_1, nI_1]
        have e := ih (k + 1) (by omega)
        rw [show hmC κ th (k + 1) = hmC κ th k + (if isPt κ k th = true then 1 else 0) from rfl, if_pos (b2i_t z24)] at e
        exact e
  show g 0 0 0 [(0, .ref 113)] [] (WX pgC pgL stC stL PA PS BA BS u)
  refine M.blk (is := [(.iconst 0, 0, 0, 0), (.istore_n 1, 1, 0, 0), (.iconst 0, 0, 0, 0), (.istore_n 2, 2, 0, 0)]) (pc1 := 4) (lo1 := [(2, .int 0), (1, .int 0), (0, .ref 113)]) (st1 := []) (w1 := (WX pgC pgL stC stL PA PS BA BS u)) (by decide +kernel) rfl ?_
  refine M.lsub [2, 1, 0] (lo1 := [(0, .ref 113), (1, .int 0), (2, .int 0)]) rfl ?_
  exact lp (ptsN κ) 0 (by omega)
theorem x_howManyMissed {κ th : Nat} {Mf : Nat → Int32} (h7 : BS 7 = kI κ) (hκ : κ ≤ 3) (h8 : BS 8 = nI (ptsN κ)) (h9 : BS 9 = nI th) (ht : th < 16) (hM : ∀ p, p < ptsN κ → BA 1 p = Mf p) : CC 2 mX0_howManyMissed 0 0 [.ref 113] (WX pgC pgL stC stL PA PS BA BS u) (Rt (nI (hmM κ th Mf (ptsN κ))) (WX pgC pgL stC stL PA PS BA BS u)) := by
  have hP := ptsN_le κ
  refine CC.of okX0_howManyMissed.1 (Nat.le_of_ble_eq_true rfl) (fun g M => ?_)
  have lp : ∀ m k, k + m = ptsN κ → g 0 0 4 [(0, .ref 113), (1, .int (nI (hmM κ th Mf k))), (2, .int (nI k))] [] (WX pgC pgL stC stL PA PS BA BS u) := by
    intro m
    induction m with
    | zero =>
      intro k hk
      have ek : ptsN κ = k := by omega
      rw [← ek]
      refine M.blk (is := [(.iload_n 2, 2, 0, 0), (.aload_n 0, 0, 0, 0), (.getfield 70, 0, 8, 0)]) (pc1 := 9) (lo1 := [(0, .ref 113), (1, .int (nI (hmM κ th Mf (ptsN κ)))), (2, .int (nI (ptsN κ)))]) (st1 := [.int (BS 8), .int (nI (ptsN κ))]) (w1 := (WX pgC pgL stC stL PA PS BA BS u)) (by decide +kernel) rfl ?_
      refine M.icmp_ge (off := 36) (tgt := 45) (nx := 12) (by decide +kernel) (fun z9 => ?_) (fun z9 => by exfalso; exact z9 (by rw [h8]; exact nI_le (Nat.le_refl _) (by omega)))
      refine M.blk (is := [(.iload_n 1, 1, 0, 0)]) (pc1 := 46) (lo1 := [(0, .ref 113), (1, .int (nI (hmM κ th Mf (ptsN κ)))), (2, .int (nI (ptsN κ)))]) (st1 := [.int (nI (hmM κ th Mf (ptsN κ)))]) (w1 := (WX pgC pgL stC stL PA PS BA BS u)) (by decide +kernel) rfl ?_
      exact M.reti (nx := 47) (by decide +kernel) ⟨rfl, rfl⟩
    | succ m ih =>
      intro k hk
      have hkp : k < ptsN κ := by omega
      have hk7 := h7.trans (kI_nI (pts_lt3 hkp hκ))
      have hMk := hM k hkp
      refine M.blk (is := [(.iload_n 2, 2, 0, 0), (.aload_n 0, 0, 0, 0), (.getfield 70, 0, 8, 0)]) (pc1 := 9) (lo1 := [(0, .ref 113), (1, .int (nI (hmM κ th Mf k))), (2, .int (nI k))]) (st1 := [.int (BS 8), .int (nI k)]) (w1 := (WX pgC pgL stC stL PA PS BA BS u)) (by decide +kernel) rfl ?_
      refine M.icmp_ge (off := 36) (tgt := 45) (nx := 12) (by decide +kernel) (fun z9 => by exfalso; rw [h8] at z9; exact nI_ge hkp (by omega) z9) (fun z9 => ?_)
      refine M.blk (is := [(.aload_n 0, 0, 0, 0), (.getfield 15, 0, 1, 0), (.iload_n 2, 2, 0, 0)]) (pc1 := 17) (lo1 := [(0, .ref 113), (1, .int (nI (hmM κ th Mf k))), (2, .int (nI k))]) (st1 := [.int (nI k), .ref 115]) (w1 := (WX pgC pgL stC stL PA PS BA BS u)) (by decide +kernel) rfl ?_
      refine M.ald (n := 128) (f := BA 1) (j := k) (nx := 18) (by decide +kernel) rfl rfl (by omega) (by decide) ?_
      rw [hMk]
      refine M.if_le (off := 21) (tgt := 39) (nx := 21) (by decide +kernel) (fun z18 => ?_) (fun z18 => ?_)
      · refine M.blk (is := [(.iinc 2 1, 2, 0, 1), (.goto (-38), 4, 0, 0)]) (pc1 := 4) (lo1 := [(2, .int ((nI k) + 1)), (0, .ref 113), (1, .int (nI (hmM κ th Mf k)))]) (st1 := []) (w1 := (WX pgC pgL stC stL PA PS BA BS u)) (by decide +kernel) rfl ?_
        refine M.lsub [1, 2, 0] (lo1 := [(0, .ref 113), (1, .int (nI (hmM κ th Mf k))), (2, .int ((nI k) + 1))]) rfl ?_
        rw [nI_1]
        have e := ih (k + 1) (by omega)
        rw [show hmM κ th Mf (k + 1) = hmM κ th Mf k + (if 0 < Mf k ∧ isPt κ k th = true then 1 else 0) from rfl, if_neg (fun h => i32_nlt h.1 z18)] at e
        exact e
      · refine M.blk (is := [(.aload_n 0, 0, 0, 0), (.getfield 35, 0, 7, 0), (.iload_n 2, 2, 0, 0), (.aload_n 0, 0, 0, 0), (.getfield 78, 0, 9, 0)]) (pc1 := 30) (lo1 := [(0, .ref 113), (1, .int (nI (hmM κ th Mf k))), (2, .int (nI k))]) (st1 := [.int (BS 9), .int (nI k), .int (BS 7)]) (w1 := (WX pgC pgL stC stL PA PS BA BS u)) (by decide +kernel) rfl ?_
        rw [hk7, h9]
        refine M.callSi (as := [.int (nI κ), .int (nI k), .int (nI th)]) (st := []) (nx := 33) okX3_isPart lkX0_119 (s_isPart (WX pgC pgL stC stL PA PS BA BS u) (κ := κ) (p := k) (th := th) hκ (by omega) ht) (by decide +kernel) (by decide) rfl (Nat.le_of_ble_eq_true rfl) ?_
        refine M.if_eq (off := 6) (tgt := 39) (nx := 36) (by decide +kernel) (fun z33 => ?_) (fun z33 => ?_)
        · refine M.blk (is := [(.iinc 2 1, 2, 0, 1), (.goto (-38), 4, 0, 0)]) (pc1 := 4) (lo1 := [(2, .int ((nI k) + 1)), (0, .ref 113), (1, .int (nI (hmM κ th Mf k)))]) (st1 := []) (w1 := (WX pgC pgL stC stL PA PS BA BS u)) (by decide +kernel) rfl ?_
          refine M.lsub [1, 2, 0] (lo1 := [(0, .ref 113), (1, .int (nI (hmM κ th Mf k))), (2, .int ((nI k) + 1))]) rfl ?_
          rw [nI_1]
          have e := ih (k + 1) (by omega)
          rw [show hmM κ th Mf (k + 1) = hmM κ th Mf k + (if 0 < Mf k ∧ isPt κ k th = true then 1 else 0) from rfl, if_neg (fun h => b2i_f z33 h.2)] at e
          exact e
        · refine M.blk (is := [(.iinc 1 1, 1, 0, 1), (.iinc 2 1, 2, 0, 1), (.goto (-38), 4, 0, 0)]) (pc1 := 4) (lo1 := [(2, .int ((nI k) + 1)), (1, .int ((nI (hmM κ th Mf k)) + 1)), (0, .ref 113)]) (st1 := []) (w1 := (WX pgC pgL stC stL PA PS BA BS u)) (by decide +kernel) rfl ?_
          refine M.lsub [2, 1, 0] (lo1 := [(0, .ref 113), (1, .int ((nI (hmM κ th Mf k)) + 1)), (2, .int ((nI k) + 1))]) rfl ?_
          rw [nI_1, nI_1]
          have e := ih (k + 1) (by omega)
          rw [show hmM κ th Mf (k + 1) = hmM κ th Mf k + (if 0 < Mf k ∧ isPt κ k th = true then 1 else 0) from rfl, if_pos ⟨i32_nle z18, b2i_t z33⟩] at e
          exact e
  show g 0 0 0 [(0, .ref 113)] [] (WX pgC pgL stC stL PA PS BA BS u)
  refine M.blk (is := [(.iconst 0, 0, 0, 0), (.istore_n 1, 1, 0, 0), (.iconst 0, 0, 0, 0), (.istore_n 2, 2, 0, 0)]) (pc1 := 4) (lo1 := [(2, .int 0), (1, .int 0), (0, .ref 113)]) (st1 := []) (w1 := (WX pgC pgL stC stL PA PS BA BS u)) (by decide +kernel) rfl ?_
  refine M.lsub [2, 1, 0] (lo1 := [(0, .ref 113), (1, .int 0), (2, .int 0)]) rfl ?_
  exact lp (ptsN κ) 0 (by omega)
def lhI (x : Int32) (κ : Nat) (r : Option Nat) : Int32 := match r with | none => -1 | some p => 1000 * x + 300 * nI κ + nI p
theorem x_leastHidden {κ th : Nat} {Mf : Nat → Int32} (h7 : BS 7 = kI κ) (hκ : κ ≤ 3) (h8 : BS 8 = nI (ptsN κ)) (h9 : BS 9 = nI th) (ht : th < 16) (hM : ∀ p, p < ptsN κ → BA 1 p = Mf p) : CC 2 mX0_leastHidden 0 0 [.ref 113] (WX pgC pgL stC stL PA PS BA BS u) (Rt (lhI (BS 6) κ (lhS κ th Mf (ptsN κ) 0)) (WX pgC pgL stC stL PA PS BA BS u)) := by
  have hP := ptsN_le κ
  refine CC.of okX0_leastHidden.1 (Nat.le_of_ble_eq_true rfl) (fun g M => ?_)
  have lp : ∀ m k, k + m = ptsN κ → lhS κ th Mf (ptsN κ) 0 = lhS κ th Mf m k → g 0 0 2 [(0, .ref 113), (1, .int (nI k))] [] (WX pgC pgL stC stL PA PS BA BS u) := by
    intro m
    induction m with
    | zero =>
      intro k hk he
      have ek : ptsN κ = k := by omega
      rw [← ek]
      refine M.blk (is := [(.iload_n 1, 1, 0, 0), (.aload_n 0, 0, 0, 0), (.getfield 70, 0, 8, 0)]) (pc1 := 7) (lo1 := [(0, .ref 113), (1, .int (nI (ptsN κ)))]) (st1 := [.int (BS 8), .int (nI (ptsN κ))]) (w1 := (WX pgC pgL stC stL PA PS BA BS u)) (by decide +kernel) rfl ?_
      refine M.icmp_ge (off := 53) (tgt := 60) (nx := 10) (by decide +kernel) (fun z7 => ?_) (fun z7 => by exfalso; exact z7 (by rw [h8]; exact nI_le (Nat.le_refl _) (by omega)))
      refine M.blk (is := [(.iconst (-1), 0, 0, (-1))]) (pc1 := 61) (lo1 := [(0, .ref 113), (1, .int (nI (ptsN κ)))]) (st1 := [.int (-1)]) (w1 := (WX pgC pgL stC stL PA PS BA BS u)) (by decide +kernel) rfl ?_
      exact M.reti (nx := 62) (by decide +kernel) ⟨by rw [he]; rfl, rfl⟩
    | succ m ih =>
      intro k hk he
      have hkp : k < ptsN κ := by omega
      have hk7 := h7.trans (kI_nI (pts_lt3 hkp hκ))
      have hMk := hM k hkp
      refine M.blk (is := [(.iload_n 1, 1, 0, 0), (.aload_n 0, 0, 0, 0), (.getfield 70, 0, 8, 0)]) (pc1 := 7) (lo1 := [(0, .ref 113), (1, .int (nI k))]) (st1 := [.int (BS 8), .int (nI k)]) (w1 := (WX pgC pgL stC stL PA PS BA BS u)) (by decide +kernel) rfl ?_
      refine M.icmp_ge (off := 53) (tgt := 60) (nx := 10) (by decide +kernel) (fun z7 => by exfalso; rw [h8] at z7; exact nI_ge hkp (by omega) z7) (fun z7 => ?_)
      refine M.blk (is := [(.aload_n 0, 0, 0, 0), (.getfield 15, 0, 1, 0), (.iload_n 1, 1, 0, 0)]) (pc1 := 15) (lo1 := [(0, .ref 113), (1, .int (nI k))]) (st1 := [.int (nI k), .ref 115]) (w1 := (WX pgC pgL stC stL PA PS BA BS u)) (by decide +kernel) rfl ?_
      refine M.ald (n := 128) (f := BA 1) (j := k) (nx := 16) (by decide +kernel) rfl rfl (by omega) (by decide) ?_
      rw [hMk]
      refine M.if_ne (off := 38) (tgt := 54) (nx := 19) (by decide +kernel) (fun z16 => ?_) (fun z16 => ?_)
      · refine M.blk (is := [(.iinc 1 1, 1, 0, 1), (.goto (-55), 2, 0, 0)]) (pc1 := 2) (lo1 := [(1, .int ((nI k) + 1)), (0, .ref 113)]) (st1 := []) (w1 := (WX pgC pgL stC stL PA PS BA BS u)) (by decide +kernel) rfl ?_
        refine M.lsub [1, 0] (lo1 := [(0, .ref 113), (1, .int ((nI k) + 1))]) rfl ?_
        rw [nI_1]
        exact ih (k + 1) (by omega) (by rw [he, lhS_succ, if_neg (fun h => z16 h.1)])
      · refine M.blk (is := [(.aload_n 0, 0, 0, 0), (.getfield 35, 0, 7, 0), (.iload_n 1, 1, 0, 0), (.aload_n 0, 0, 0, 0), (.getfield 78, 0, 9, 0)]) (pc1 := 28) (lo1 := [(0, .ref 113), (1, .int (nI k))]) (st1 := [.int (BS 9), .int (nI k), .int (BS 7)]) (w1 := (WX pgC pgL stC stL PA PS BA BS u)) (by decide +kernel) rfl ?_
        rw [hk7, h9]
        refine M.callSi (as := [.int (nI κ), .int (nI k), .int (nI th)]) (st := []) (nx := 31) okX3_isPart lkX0_119 (s_isPart (WX pgC pgL stC stL PA PS BA BS u) (κ := κ) (p := k) (th := th) hκ (by omega) ht) (by decide +kernel) (by decide) rfl (Nat.le_of_ble_eq_true rfl) ?_
        refine M.if_eq (off := 23) (tgt := 54) (nx := 34) (by decide +kernel) (fun z31 => ?_) (fun z31 => ?_)
        · refine M.blk (is := [(.iinc 1 1, 1, 0, 1), (.goto (-55), 2, 0, 0)]) (pc1 := 2) (lo1 := [(1, .int ((nI k) + 1)), (0, .ref 113)]) (st1 := []) (w1 := (WX pgC pgL stC stL PA PS BA BS u)) (by decide +kernel) rfl ?_
          refine M.lsub [1, 0] (lo1 := [(0, .ref 113), (1, .int ((nI k) + 1))]) rfl ?_
          rw [nI_1]
          exact ih (k + 1) (by omega) (by rw [he, lhS_succ, if_neg (fun h => b2i_f z31 h.2)])
        · refine M.blk (is := [(.sipush 1000, 0, 0, 1000), (.aload_n 0, 0, 0, 0), (.getfield 31, 0, 6, 0), (.imul, 0, 0, 0), (.sipush 300, 0, 0, 300), (.aload_n 0, 0, 0, 0), (.getfield 35, 0, 7, 0), (.imul, 0, 0, 0), (.iadd, 0, 0, 0), (.iload_n 1, 1, 0, 0), (.iadd, 0, 0, 0)]) (pc1 := 53) (lo1 := [(0, .ref 113), (1, .int (nI k))]) (st1 := [.int (((1000 * (BS 6)) + (300 * (BS 7))) + (nI k))]) (w1 := (WX pgC pgL stC stL PA PS BA BS u)) (by decide +kernel) rfl ?_
          exact M.reti (nx := 54) (by decide +kernel) ⟨by rw [he, lhS_succ, if_pos ⟨z16, b2i_t z31⟩, hk7]; rfl, rfl⟩
  show g 0 0 0 [(0, .ref 113)] [] (WX pgC pgL stC stL PA PS BA BS u)
  refine M.blk (is := [(.iconst 0, 0, 0, 0), (.istore_n 1, 1, 0, 0)]) (pc1 := 2) (lo1 := [(1, .int 0), (0, .ref 113)]) (st1 := []) (w1 := (WX pgC pgL stC stL PA PS BA BS u)) (by decide +kernel) rfl ?_
  refine M.lsub [1, 0] (lo1 := [(0, .ref 113), (1, .int 0)]) rfl ?_
  exact lp (ptsN κ) 0 (by omega) rfl
theorem x_latestFirst {κ th : Nat} {Mf : Nat → Int32} (h7 : BS 7 = kI κ) (hκ : κ ≤ 3) (h8 : BS 8 = nI (ptsN κ)) (h9 : BS 9 = nI th) (ht : th < 16) (hM : ∀ p, p < ptsN κ → BA 1 p = Mf p) {Ff : Nat → Int32} (hF : ∀ p, p < ptsN κ → ¬ Mf p = 0 → BA 2 p = Ff p) : CC 2 mX0_latestFirst 0 0 [.ref 113] (WX pgC pgL stC stL PA PS BA BS u) (Rt (ltF κ th Mf Ff (ptsN κ)) (WX pgC pgL stC stL PA PS BA BS u)) := by
  have hP := ptsN_le κ
  refine CC.of okX0_latestFirst.1 (Nat.le_of_ble_eq_true rfl) (fun g M => ?_)
  have lp : ∀ m k, k + m = ptsN κ → g 0 0 4 [(0, .ref 113), (1, .int (ltF κ th Mf Ff k)), (2, .int (nI k))] [] (WX pgC pgL stC stL PA PS BA BS u) := by
    intro m
    induction m with
    | zero =>
      intro k hk
      have ek : ptsN κ = k := by omega
      rw [← ek]
      refine M.blk (is := [(.iload_n 2, 2, 0, 0), (.aload_n 0, 0, 0, 0), (.getfield 70, 0, 8, 0)]) (pc1 := 9) (lo1 := [(0, .ref 113), (1, .int (ltF κ th Mf Ff (ptsN κ))), (2, .int (nI (ptsN κ)))]) (st1 := [.int (BS 8), .int (nI (ptsN κ))]) (w1 := (WX pgC pgL stC stL PA PS BA BS u)) (by decide +kernel) rfl ?_
      refine M.icmp_ge (off := 44) (tgt := 53) (nx := 12) (by decide +kernel) (fun z9 => ?_) (fun z9 => by exfalso; exact z9 (by rw [h8]; exact nI_le (Nat.le_refl _) (by omega)))
      refine M.blk (is := [(.iload_n 1, 1, 0, 0)]) (pc1 := 54) (lo1 := [(0, .ref 113), (1, .int (ltF κ th Mf Ff (ptsN κ))), (2, .int (nI (ptsN κ)))]) (st1 := [.int (ltF κ th Mf Ff (ptsN κ))]) (w1 := (WX pgC pgL stC stL PA PS BA BS u)) (by decide +kernel) rfl ?_
      exact M.reti (nx := 55) (by decide +kernel) ⟨rfl, rfl⟩
    | succ m ih =>
      intro k hk
      have hkp : k < ptsN κ := by omega
      have hk7 := h7.trans (kI_nI (pts_lt3 hkp hκ))
      have hMk := hM k hkp
      refine M.blk (is := [(.iload_n 2, 2, 0, 0), (.aload_n 0, 0, 0, 0), (.getfield 70, 0, 8, 0)]) (pc1 := 9) (lo1 := [(0, .ref 113), (1, .int (ltF κ th Mf Ff k)), (2, .int (nI k))]) (st1 := [.int (BS 8), .int (nI k)]) (w1 := (WX pgC pgL stC stL PA PS BA BS u)) (by decide +kernel) rfl ?_
      refine M.icmp_ge (off := 44) (tgt := 53) (nx := 12) (by decide +kernel) (fun z9 => by exfalso; rw [h8] at z9; exact nI_ge hkp (by omega) z9) (fun z9 => ?_)
      refine M.blk (is := [(.aload_n 0, 0, 0, 0), (.getfield 15, 0, 1, 0), (.iload_n 2, 2, 0, 0)]) (pc1 := 17) (lo1 := [(0, .ref 113), (1, .int (ltF κ th Mf Ff k)), (2, .int (nI k))]) (st1 := [.int (nI k), .ref 115]) (w1 := (WX pgC pgL stC stL PA PS BA BS u)) (by decide +kernel) rfl ?_
      refine M.ald (n := 128) (f := BA 1) (j := k) (nx := 18) (by decide +kernel) rfl rfl (by omega) (by decide) ?_
      rw [hMk]
      refine M.if_le (off := 29) (tgt := 47) (nx := 21) (by decide +kernel) (fun z18 => ?_) (fun z18 => ?_)
      · refine M.blk (is := [(.iinc 2 1, 2, 0, 1), (.goto (-46), 4, 0, 0)]) (pc1 := 4) (lo1 := [(2, .int ((nI k) + 1)), (0, .ref 113), (1, .int (ltF κ th Mf Ff k))]) (st1 := []) (w1 := (WX pgC pgL stC stL PA PS BA BS u)) (by decide +kernel) rfl ?_
        refine M.lsub [1, 2, 0] (lo1 := [(0, .ref 113), (1, .int (ltF κ th Mf Ff k)), (2, .int ((nI k) + 1))]) rfl ?_
        rw [nI_1]
        have e := ih (k + 1) (by omega)
        rw [show ltF κ th Mf Ff (k + 1) = if 0 < Mf k ∧ isPt κ k th = true then (if ltF κ th Mf Ff k < Ff k then Ff k else ltF κ th Mf Ff k) else ltF κ th Mf Ff k from rfl, if_neg (fun h => i32_nlt h.1 z18)] at e
        exact e
      · refine M.blk (is := [(.aload_n 0, 0, 0, 0), (.getfield 35, 0, 7, 0), (.iload_n 2, 2, 0, 0), (.aload_n 0, 0, 0, 0), (.getfield 78, 0, 9, 0)]) (pc1 := 30) (lo1 := [(0, .ref 113), (1, .int (ltF κ th Mf Ff k)), (2, .int (nI k))]) (st1 := [.int (BS 9), .int (nI k), .int (BS 7)]) (w1 := (WX pgC pgL stC stL PA PS BA BS u)) (by decide +kernel) rfl ?_
        rw [hk7, h9]
        refine M.callSi (as := [.int (nI κ), .int (nI k), .int (nI th)]) (st := []) (nx := 33) okX3_isPart lkX0_119 (s_isPart (WX pgC pgL stC stL PA PS BA BS u) (κ := κ) (p := k) (th := th) hκ (by omega) ht) (by decide +kernel) (by decide) rfl (Nat.le_of_ble_eq_true rfl) ?_
        refine M.if_eq (off := 14) (tgt := 47) (nx := 36) (by decide +kernel) (fun z33 => ?_) (fun z33 => ?_)
        · refine M.blk (is := [(.iinc 2 1, 2, 0, 1), (.goto (-46), 4, 0, 0)]) (pc1 := 4) (lo1 := [(2, .int ((nI k) + 1)), (0, .ref 113), (1, .int (ltF κ th Mf Ff k))]) (st1 := []) (w1 := (WX pgC pgL stC stL PA PS BA BS u)) (by decide +kernel) rfl ?_
          refine M.lsub [1, 2, 0] (lo1 := [(0, .ref 113), (1, .int (ltF κ th Mf Ff k)), (2, .int ((nI k) + 1))]) rfl ?_
          rw [nI_1]
          have e := ih (k + 1) (by omega)
          rw [show ltF κ th Mf Ff (k + 1) = if 0 < Mf k ∧ isPt κ k th = true then (if ltF κ th Mf Ff k < Ff k then Ff k else ltF κ th Mf Ff k) else ltF κ th Mf Ff k from rfl, if_neg (fun h => b2i_f z33 h.2)] at e
          exact e
        · refine M.blk (is := [(.iload_n 1, 1, 0, 0), (.aload_n 0, 0, 0, 0), (.getfield 18, 0, 2, 0), (.iload_n 2, 2, 0, 0)]) (pc1 := 42) (lo1 := [(0, .ref 113), (1, .int (ltF κ th Mf Ff k)), (2, .int (nI k))]) (st1 := [.int (nI k), .ref 116, .int (ltF κ th Mf Ff k)]) (w1 := (WX pgC pgL stC stL PA PS BA BS u)) (by decide +kernel) rfl ?_
          refine M.ald (n := 128) (f := BA 2) (j := k) (nx := 43) (by decide +kernel) rfl rfl (by omega) (by decide) ?_
          rw [hF k hkp (fun e => i32_nlt (i32_nle z18) (by rw [e]; decide))]
          refine M.mmax (idx := 123) (nx := 46) (by decide +kernel) (lw_in 438 (by decide +kernel) (by decide +kernel)) (lw_in 439 (by decide +kernel) (by decide +kernel)) (lw_in 60 (by decide +kernel) (by decide +kernel)) (lw_in 440 (by decide +kernel) (by decide +kernel)) (by decide) (Nat.le_of_ble_eq_true rfl) (by decide) (by decide) ?_
          refine M.blk (is := [(.istore_n 1, 1, 0, 0), (.iinc 2 1, 2, 0, 1), (.goto (-46), 4, 0, 0)]) (pc1 := 4) (lo1 := [(2, .int ((nI k) + 1)), (1, .int (if ltF κ th Mf Ff k < Ff k then Ff k else ltF κ th Mf Ff k)), (0, .ref 113)]) (st1 := []) (w1 := (WX pgC pgL stC stL PA PS BA BS u)) (by decide +kernel) rfl ?_
          refine M.lsub [2, 1, 0] (lo1 := [(0, .ref 113), (1, .int (if ltF κ th Mf Ff k < Ff k then Ff k else ltF κ th Mf Ff k)), (2, .int ((nI k) + 1))]) rfl ?_
          rw [nI_1]
          have e := ih (k + 1) (by omega)
          rw [show ltF κ th Mf Ff (k + 1) = if 0 < Mf k ∧ isPt κ k th = true then (if ltF κ th Mf Ff k < Ff k then Ff k else ltF κ th Mf Ff k) else ltF κ th Mf Ff k from rfl, if_pos ⟨i32_nle z18, b2i_t z33⟩] at e
          exact e
  show g 0 0 0 [(0, .ref 113)] [] (WX pgC pgL stC stL PA PS BA BS u)
  refine M.blk (is := [(.iconst (-1), 0, 0, (-1)), (.istore_n 1, 1, 0, 0), (.iconst 0, 0, 0, 0), (.istore_n 2, 2, 0, 0)]) (pc1 := 4) (lo1 := [(2, .int 0), (1, .int (-1)), (0, .ref 113)]) (st1 := []) (w1 := (WX pgC pgL stC stL PA PS BA BS u)) (by decide +kernel) rfl ?_
  refine M.lsub [2, 1, 0] (lo1 := [(0, .ref 113), (1, .int (-1)), (2, .int 0)]) rfl ?_
  exact lp (ptsN κ) 0 (by omega)
end FOUND
