section WORK
variable {pgC : Nat → Int32} {pgL : Int32} {stC : Nat → Int32} {stL : Int32} {PA : Nat → Nat → Int32} {PS : Nat → Int32} {BA : Nat → Nat → Int32} {BS : Nat → Int32} {u : List Cl}
def trP (q p : Nat) (b : Int32) : Int32 := if p = q ∧ b = 0 then 1 else if p = q + 1 ∧ b = 1 then 0 else b
def itP (κ p pat v : Nat) (b : Int32) : Int32 := if ¬ (κ = 1 ∧ p = 2 * pat + 1 - v) then nI v else b
def hlP (κ pat p : Nat) (b : Int32) : Int32 := if κ = 0 ∧ p = 2 * pat then 0 else if κ = 0 ∧ p = 2 * pat + 1 then 1 else b
def mcB (κ p k : Nat) (s : Int32) (pat : Nat) (b : Int32) : Nat × Int32 := if wrN s (pat / 2 ^ k % 2) = pat / 2 ^ k % 2 then (pat, b) else (pat ^^^ 2 ^ k, if κ = 2 then trP (32 * k + 16 * wrN s (pat / 2 ^ k % 2) + 2 * rmB (pat ^^^ 2 ^ k) k) p b else b)
def mcr (κ p : Nat) (τ : Nat → Int32) (s : Int32) (d : Nat) (z : Nat × Nat × Int32) : Nat × Nat × Int32 := if isW (τ d) s = true then (if d = 4 then (z.1, wrN s z.2.1, hlP κ z.1 p (itP κ p z.1 (wrN s z.2.1) z.2.2)) else ((mcB κ p d s z.1 z.2.2).1, z.2.1, hlP κ (mcB κ p d s z.1 z.2.2).1 p (mcB κ p d s z.1 z.2.2).2)) else z
def wSt (κ p : Nat) (τ : Nat → Int32) (s : Int32) (z : Nat × Nat × Int32) : Nat × Nat × Int32 := mcr κ p τ s 2 (mcr κ p τ s 1 (mcr κ p τ s 4 (mcr κ p τ s 3 (mcr κ p τ s 0 z))))
theorem trn_P (q : Nat) (f : Nat → Int32) (p : Nat) : trnF q f p = trP q p (f p) := by
  unfold trnF trP
  by_cases e1 : p = q
  · subst e1
    have h : ¬ p = p + 1 := by omega
    simp [h]
  · by_cases e2 : p = q + 1
    · subst e2
      have h : ¬ q + 1 = q := by omega
      simp [h]
    · simp [e1, e2]
theorem besB_1 (κ k : Nat) (s : Int32) (pat : Nat) (f : Nat → Int32) (p : Nat) (b : Int32) : (besB κ k s pat f).1 = (mcB κ p k s pat b).1 := by
  unfold besB mcB
  split <;> rfl
theorem besB_2 (κ k : Nat) (s : Int32) (pat : Nat) (f : Nat → Int32) (p : Nat) : (besB κ k s pat f).2 p = (mcB κ p k s pat (f p)).2 := by
  unfold besB mcB
  split
  · rfl
  · dsimp only
    split
    · exact trn_P _ _ _
    · rfl
theorem mcB_lt {κ p k : Nat} {s : Int32} {pat : Nat} {b : Int32} (hk : k < 4) (hp : pat < 16) : (mcB κ p k s pat b).1 < 16 := by
  unfold mcB
  split
  · exact hp
  · exact (bs_xor ⟨pat, hp⟩ ⟨k, hk⟩).2
theorem mcr_lt {κ p : Nat} {τ : Nat → Int32} {s : Int32} {d : Nat} (hd : d < 5) {z : Nat × Nat × Int32} (h : z.1 < 16 ∧ z.2.1 < 2) : (mcr κ p τ s d z).1 < 16 ∧ (mcr κ p τ s d z).2.1 < 2 := by
  unfold mcr
  split
  · split
    · exact ⟨h.1, wrN_2 s _⟩
    · exact ⟨mcB_lt (by omega) h.1, h.2⟩
  · exact h
theorem wSt_lt {κ p : Nat} {τ : Nat → Int32} {s : Int32} {z : Nat × Nat × Int32} (h : z.1 < 16 ∧ z.2.1 < 2) : (wSt κ p τ s z).1 < 16 ∧ (wSt κ p τ s z).2.1 < 2 := mcr_lt (by decide) (mcr_lt (by decide) (mcr_lt (by decide) (mcr_lt (by decide) (mcr_lt (by decide) h))))
def BR (κ : Nat) (z : Nat → Nat × Nat × Int32) (BA : Nat → Nat → Int32) (BS : Nat → Int32) : Prop := (∀ p, BS 10 = nI (z p).1 ∧ (z p).1 < 16 ∧ BS 11 = nI (z p).2.1 ∧ (z p).2.1 < 2) ∧ ∀ p, p < ptsN κ → BA 0 p = (z p).2.2
theorem BR_same {κ : Nat} {z : Nat → Nat × Nat × Int32} {BA : Nat → Nat → Int32} {BS : Nat → Int32} (h : BR κ z BA BS) (p : Nat) : (z p).1 = (z 0).1 ∧ (z p).2.1 = (z 0).2.1 := by
  obtain ⟨a1, a2, a3, a4⟩ := h.1 p
  obtain ⟨b1, b2, b3, b4⟩ := h.1 0
  exact ⟨nI_inj (by omega) (by omega) (a1.symm.trans b1), nI_inj (by omega) (by omega) (a3.symm.trans b3)⟩
theorem BR_skip {κ : Nat} {z : Nat → Nat × Nat × Int32} {BA : Nat → Nat → Int32} {BS : Nat → Int32} {τ : Nat → Int32} {s : Int32} {d : Nat} (h : BR κ z BA BS) (hw : ¬ isW (τ d) s = true) : BR κ (fun p => mcr κ p τ s d (z p)) BA BS := by
  have e : (fun p => mcr κ p τ s d (z p)) = z := by funext p; unfold mcr; rw [if_neg hw]
  rw [e]
  exact h
theorem BR_bes {κ : Nat} {z : Nat → Nat × Nat × Int32} {BA BB : Nat → Nat → Int32} {BS BT : Nat → Int32} {τ : Nat → Int32} {s : Int32} {d : Nat} (h : BR κ z BA BS) (hw : isW (τ d) s = true) (hd : d < 4) (e0 : BB 0 = hldF κ (besB κ d s (z 0).1 (BA 0)).1 (besB κ d s (z 0).1 (BA 0)).2) (e10 : BT 10 = nI (besB κ d s (z 0).1 (BA 0)).1) (e11 : BT 11 = BS 11) : BR κ (fun p => mcr κ p τ s d (z p)) BB BT := by
  have hm : ∀ p, mcr κ p τ s d (z p) = ((mcB κ p d s (z p).1 (z p).2.2).1, (z p).2.1, hlP κ (mcB κ p d s (z p).1 (z p).2.2).1 p (mcB κ p d s (z p).1 (z p).2.2).2) := by
    intro p
    unfold mcr
    rw [if_pos hw, if_neg (by omega)]
  refine ⟨fun p => ?_, fun p hp => ?_⟩
  · dsimp only
    rw [hm]
    obtain ⟨a1, a2, a3, a4⟩ := h.1 p
    refine ⟨?_, mcB_lt hd a2, by rw [e11]; exact a3, a4⟩
    rw [e10, besB_1 κ d s (z 0).1 (BA 0) p (z p).2.2, (BR_same h p).1]
  · show _ = (mcr κ p τ s d (z p)).2.2
    rw [hm]
    dsimp only
    rw [e0]
    have h1 := besB_1 κ d s (z 0).1 (BA 0) p (z p).2.2
    have h2 := besB_2 κ d s (z 0).1 (BA 0) p
    rw [h.2 p hp] at h2
    unfold hldF hlP
    rw [h1, h2, (BR_same h p).1]
theorem BR_its {κ : Nat} {z : Nat → Nat × Nat × Int32} {BA BB : Nat → Nat → Int32} {BS BT : Nat → Int32} {τ : Nat → Int32} {s : Int32} (h : BR κ z BA BS) (hw : isW (τ 4) s = true) (e0 : BB 0 = hldF κ (z 0).1 (itsF κ (ptsN κ) (z 0).1 (wrN s (z 0).2.1) (BA 0))) (e10 : BT 10 = BS 10) (e11 : BT 11 = nI (wrN s (z 0).2.1)) : BR κ (fun p => mcr κ p τ s 4 (z p)) BB BT := by
  have hm : ∀ p, mcr κ p τ s 4 (z p) = ((z p).1, wrN s (z p).2.1, hlP κ (z p).1 p (itP κ p (z p).1 (wrN s (z p).2.1) (z p).2.2)) := by
    intro p
    unfold mcr
    rw [if_pos hw, if_pos rfl]
  refine ⟨fun p => ?_, fun p hp => ?_⟩
  · dsimp only
    rw [hm]
    obtain ⟨a1, a2, a3, a4⟩ := h.1 p
    exact ⟨by rw [e10]; exact a1, a2, by rw [e11, (BR_same h p).2], wrN_2 s _⟩
  · show _ = (mcr κ p τ s 4 (z p)).2.2
    rw [hm]
    dsimp only
    rw [e0, (BR_same h p).1, (BR_same h p).2]
    have ein : itsF κ (ptsN κ) (z 0).1 (wrN s (z 0).2.1) (BA 0) p = itP κ p (z 0).1 (wrN s (z 0).2.1) (z p).2.2 := by
      unfold itsF itP
      rw [h.2 p hp]
      by_cases e1 : κ = 1 ∧ p = 2 * (z 0).1 + 1 - wrN s (z 0).2.1
      · rw [if_neg (fun e => e.2 e1), if_neg (fun e => e e1)]
      · rw [if_pos ⟨hp, e1⟩, if_pos e1]
    unfold hldF hlP
    rw [ein]
theorem x_writeAll {κ : Nat} {z : Nat → Nat × Nat × Int32} (h7 : BS 7 = kI κ) (h8 : BS 8 = nI (ptsN κ)) (hbr : BR κ z BA BS) (s : Int32) : CC 2 mX0_writeAll 0 0 [.ref 113, .int s] (WX pgC pgL stC stL PA PS BA BS u) (fun r0 w1 => r0 = none ∧ ∃ BB BT, w1 = WX pgC pgL stC stL PA PS BB BT u ∧ BR κ (fun p => wSt κ p (BA 4) s (z p)) BB BT ∧ (∀ k, k ≠ 0 → BB k = BA k) ∧ (∀ i, i ≠ 10 → i ≠ 11 → BT i = BS i)) := by
  refine CC.of okX0_writeAll.1 (Nat.le_of_ble_eq_true rfl) (fun g M => ?_)
  have L5 : ∀ (y : Nat → Nat × Nat × Int32) BB BT, BR κ y BB BT → (∀ k, k ≠ 0 → BB k = BA k) ∧ (∀ i, i ≠ 10 → i ≠ 11 → BT i = BS i) → (∀ p, y p = wSt κ p (BA 4) s (z p)) → g 0 0 2 [(0, .ref 113), (1, .int s), (2, .int 5)] [] (WX pgC pgL stC stL PA PS BB BT u) := by
    intro y BB BT hy hf he
    have g7 : BT 7 = kI κ := (hf.2 7 (by decide) (by decide)).trans h7
    have g8 : BT 8 = nI (ptsN κ) := (hf.2 8 (by decide) (by decide)).trans h8
    have g4 : BB 4 = BA 4 := hf.1 4 (by decide)
    refine M.blk (is := [(.iload_n 2, 2, 0, 0)]) (pc1 := 3) (lo1 := [(0, .ref 113), (1, .int s), (2, .int 5)]) (st1 := [.int 5]) (w1 := (WX pgC pgL stC stL PA PS BB BT u)) (by decide +kernel) rfl ?_
    refine M.gord (idx := 95) (nx := 6) (by decide +kernel) (lw_in 375 (by decide +kernel) (by decide +kernel)) ?_
    refine M.lord (nx := 7) (by decide +kernel) ?_
    refine M.icmp_ge (off := 50) (tgt := 57) (nx := 10) (by decide +kernel) (fun _ => ?_) (fun h => absurd h (by decide))
    exact M.retv (nx := 58) (by decide +kernel) ⟨rfl, BB, BT, rfl, by rw [← funext he]; exact hy, hf⟩
  have L4 : ∀ (y : Nat → Nat × Nat × Int32) BB BT, BR κ y BB BT → (∀ k, k ≠ 0 → BB k = BA k) ∧ (∀ i, i ≠ 10 → i ≠ 11 → BT i = BS i) → (∀ p, mcr κ p (BA 4) s 2 (y p) = wSt κ p (BA 4) s (z p)) → g 0 0 2 [(0, .ref 113), (1, .int s), (2, .int 4)] [] (WX pgC pgL stC stL PA PS BB BT u) := by
    intro y BB BT hy hf he
    have g7 : BT 7 = kI κ := (hf.2 7 (by decide) (by decide)).trans h7
    have g8 : BT 8 = nI (ptsN κ) := (hf.2 8 (by decide) (by decide)).trans h8
    have g4 : BB 4 = BA 4 := hf.1 4 (by decide)
    refine M.blk (is := [(.iload_n 2, 2, 0, 0)]) (pc1 := 3) (lo1 := [(0, .ref 113), (1, .int s), (2, .int 4)]) (st1 := [.int 4]) (w1 := (WX pgC pgL stC stL PA PS BB BT u)) (by decide +kernel) rfl ?_
    refine M.gord (idx := 95) (nx := 6) (by decide +kernel) (lw_in 375 (by decide +kernel) (by decide +kernel)) ?_
    refine M.lord (nx := 7) (by decide +kernel) ?_
    refine M.icmp_ge (off := 50) (tgt := 57) (nx := 10) (by decide +kernel) (fun h => absurd h (by decide)) (fun _ => ?_)
    refine M.gord (idx := 95) (nx := 13) (by decide +kernel) (lw_in 375 (by decide +kernel) (by decide +kernel)) ?_
    refine M.blk (is := [(.iload_n 2, 2, 0, 0)]) (pc1 := 14) (lo1 := [(0, .ref 113), (1, .int s), (2, .int 4)]) (st1 := [.int 4, .ref 98]) (w1 := (WX pgC pgL stC stL PA PS BB BT u)) (by decide +kernel) rfl ?_
    refine M.aord (j := 4) (nx := 15) (by decide +kernel) rfl (by decide) ?_
    show g 0 0 15 [(0, .ref 113), (1, .int s), (2, .int 4)] [.int 2] (WX pgC pgL stC stL PA PS BB BT u)
    refine M.blk (is := [(.istore_n 3, 3, 0, 0), (.aload_n 0, 0, 0, 0), (.iload_n 3, 3, 0, 0), (.iload_n 1, 1, 0, 0)]) (pc1 := 19) (lo1 := [(3, .int 2), (0, .ref 113), (1, .int s), (2, .int 4)]) (st1 := [.int s, .int 2, .ref 113]) (w1 := (WX pgC pgL stC stL PA PS BB BT u)) (by decide +kernel) rfl ?_
    refine M.callVi (as := [.int 2, .int s]) (st := []) (nx := 22) okX0_isWritten lkX0_98 (x_isWritten (d := 2) (by decide) s) (by decide +kernel) (by decide) rfl (Nat.le_of_ble_eq_true rfl) rfl (by decide) ?_
    rw [g4]
    refine M.if_ne (off := 6) (tgt := 28) (nx := 25) (by decide +kernel) (fun z22 => ?_) (fun z22 => ?_)
    · refine M.blk (is := [(.iload_n 3, 3, 0, 0), (.iconst 4, 0, 0, 4)]) (pc1 := 30) (lo1 := [(3, .int 2), (0, .ref 113), (1, .int s), (2, .int 4)]) (st1 := [.int 4, .int 2]) (w1 := (WX pgC pgL stC stL PA PS BB BT u)) (by decide +kernel) rfl ?_
      refine M.icmp_ne (off := 11) (tgt := 41) (nx := 33) (by decide +kernel) (fun _ => ?_) (fun h => absurd h (by decide))
      refine M.blk (is := [(.aload_n 0, 0, 0, 0), (.iload_n 3, 3, 0, 0), (.iload_n 1, 1, 0, 0)]) (pc1 := 44) (lo1 := [(3, .int 2), (0, .ref 113), (1, .int s), (2, .int 4)]) (st1 := [.int s, .int 2, .ref 113]) (w1 := (WX pgC pgL stC stL PA PS BB BT u)) (by decide +kernel) rfl ?_
      refine M.callVv (as := [.int 2, .int s]) (st := []) (nx := 47) okX0_writeBeside lkX0_105 (x_writeBeside (κ := κ) (pat := (y 0).1) g7 g8 (hy.1 0).1 (hy.1 0).2.1 (k := 2) (by decide) s) (by decide +kernel) (by decide) rfl (Nat.le_of_ble_eq_true rfl) rfl (by decide) ?_
      show g 0 0 47 [(3, .int 2), (0, .ref 113), (1, .int s), (2, .int 4)] [] (WX pgC pgL stC stL PA PS (va_up BB 0 ((besB κ 2 s (y 0).1 (BB 0)).2)) (upd BT 10 (nI (besB κ 2 s (y 0).1 (BB 0)).1)) u)
      refine M.blk (is := [(.aload_n 0, 0, 0, 0)]) (pc1 := 48) (lo1 := [(3, .int 2), (0, .ref 113), (1, .int s), (2, .int 4)]) (st1 := [.ref 113]) (w1 := (WX pgC pgL stC stL PA PS (va_up BB 0 ((besB κ 2 s (y 0).1 (BB 0)).2)) (upd BT 10 (nI (besB κ 2 s (y 0).1 (BB 0)).1)) u)) (by decide +kernel) rfl ?_
      refine M.callVv (as := []) (st := []) (nx := 51) okX0_hold lkX0_42 (x_hold (κ := κ) (pat := (besB κ 2 s (y 0).1 (BB 0)).1) g7 g8 rfl (by rw [besB_1 κ 2 s (y 0).1 (BB 0) 0 0]; exact mcB_lt (by decide) (hy.1 0).2.1)) (by decide +kernel) (by decide) rfl (Nat.le_of_ble_eq_true rfl) rfl (by decide) ?_
      show g 0 0 51 [(3, .int 2), (0, .ref 113), (1, .int s), (2, .int 4)] [] (WX pgC pgL stC stL PA PS (va_up BB 0 (hldF κ ((besB κ 2 s (y 0).1 (BB 0)).1) ((besB κ 2 s (y 0).1 (BB 0)).2))) (upd BT 10 (nI (besB κ 2 s (y 0).1 (BB 0)).1)) u)
      refine M.blk (is := [(.iinc 2 1, 2, 0, 1), (.goto (-52), 2, 0, 0)]) (pc1 := 2) (lo1 := [(2, .int 5), (3, .int 2), (0, .ref 113), (1, .int s)]) (st1 := []) (w1 := (WX pgC pgL stC stL PA PS (va_up BB 0 (hldF κ ((besB κ 2 s (y 0).1 (BB 0)).1) ((besB κ 2 s (y 0).1 (BB 0)).2))) (upd BT 10 (nI (besB κ 2 s (y 0).1 (BB 0)).1)) u)) (by decide +kernel) rfl ?_
      refine M.lsub [2, 3, 0] (lo1 := [(0, .ref 113), (1, .int s), (2, .int 5)]) rfl ?_
      exact L5 _ _ _ (BR_bes hy (b2i_t z22) (by decide) rfl rfl rfl) ⟨fun k hk => (va_upN _ _ hk).trans (hf.1 k hk), fun i h1 h2 => (pk_un h1).trans (hf.2 i h1 h2)⟩ he
    · refine M.blk (is := [(.goto 26, 51, 0, 0), (.iinc 2 1, 2, 0, 1), (.goto (-52), 2, 0, 0)]) (pc1 := 2) (lo1 := [(2, .int 5), (3, .int 2), (0, .ref 113), (1, .int s)]) (st1 := []) (w1 := (WX pgC pgL stC stL PA PS BB BT u)) (by decide +kernel) rfl ?_
      refine M.lsub [2, 3, 0] (lo1 := [(0, .ref 113), (1, .int s), (2, .int 5)]) rfl ?_
      exact L5 _ BB BT (BR_skip hy (b2i_f z22)) hf he
  have L3 : ∀ (y : Nat → Nat × Nat × Int32) BB BT, BR κ y BB BT → (∀ k, k ≠ 0 → BB k = BA k) ∧ (∀ i, i ≠ 10 → i ≠ 11 → BT i = BS i) → (∀ p, mcr κ p (BA 4) s 2 (mcr κ p (BA 4) s 1 (y p)) = wSt κ p (BA 4) s (z p)) → g 0 0 2 [(0, .ref 113), (1, .int s), (2, .int 3)] [] (WX pgC pgL stC stL PA PS BB BT u) := by
    intro y BB BT hy hf he
    have g7 : BT 7 = kI κ := (hf.2 7 (by decide) (by decide)).trans h7
    have g8 : BT 8 = nI (ptsN κ) := (hf.2 8 (by decide) (by decide)).trans h8
    have g4 : BB 4 = BA 4 := hf.1 4 (by decide)
    refine M.blk (is := [(.iload_n 2, 2, 0, 0)]) (pc1 := 3) (lo1 := [(0, .ref 113), (1, .int s), (2, .int 3)]) (st1 := [.int 3]) (w1 := (WX pgC pgL stC stL PA PS BB BT u)) (by decide +kernel) rfl ?_
    refine M.gord (idx := 95) (nx := 6) (by decide +kernel) (lw_in 375 (by decide +kernel) (by decide +kernel)) ?_
    refine M.lord (nx := 7) (by decide +kernel) ?_
    refine M.icmp_ge (off := 50) (tgt := 57) (nx := 10) (by decide +kernel) (fun h => absurd h (by decide)) (fun _ => ?_)
    refine M.gord (idx := 95) (nx := 13) (by decide +kernel) (lw_in 375 (by decide +kernel) (by decide +kernel)) ?_
    refine M.blk (is := [(.iload_n 2, 2, 0, 0)]) (pc1 := 14) (lo1 := [(0, .ref 113), (1, .int s), (2, .int 3)]) (st1 := [.int 3, .ref 98]) (w1 := (WX pgC pgL stC stL PA PS BB BT u)) (by decide +kernel) rfl ?_
    refine M.aord (j := 3) (nx := 15) (by decide +kernel) rfl (by decide) ?_
    show g 0 0 15 [(0, .ref 113), (1, .int s), (2, .int 3)] [.int 1] (WX pgC pgL stC stL PA PS BB BT u)
    refine M.blk (is := [(.istore_n 3, 3, 0, 0), (.aload_n 0, 0, 0, 0), (.iload_n 3, 3, 0, 0), (.iload_n 1, 1, 0, 0)]) (pc1 := 19) (lo1 := [(3, .int 1), (0, .ref 113), (1, .int s), (2, .int 3)]) (st1 := [.int s, .int 1, .ref 113]) (w1 := (WX pgC pgL stC stL PA PS BB BT u)) (by decide +kernel) rfl ?_
    refine M.callVi (as := [.int 1, .int s]) (st := []) (nx := 22) okX0_isWritten lkX0_98 (x_isWritten (d := 1) (by decide) s) (by decide +kernel) (by decide) rfl (Nat.le_of_ble_eq_true rfl) rfl (by decide) ?_
    rw [g4]
    refine M.if_ne (off := 6) (tgt := 28) (nx := 25) (by decide +kernel) (fun z22 => ?_) (fun z22 => ?_)
    · refine M.blk (is := [(.iload_n 3, 3, 0, 0), (.iconst 4, 0, 0, 4)]) (pc1 := 30) (lo1 := [(3, .int 1), (0, .ref 113), (1, .int s), (2, .int 3)]) (st1 := [.int 4, .int 1]) (w1 := (WX pgC pgL stC stL PA PS BB BT u)) (by decide +kernel) rfl ?_
      refine M.icmp_ne (off := 11) (tgt := 41) (nx := 33) (by decide +kernel) (fun _ => ?_) (fun h => absurd h (by decide))
      refine M.blk (is := [(.aload_n 0, 0, 0, 0), (.iload_n 3, 3, 0, 0), (.iload_n 1, 1, 0, 0)]) (pc1 := 44) (lo1 := [(3, .int 1), (0, .ref 113), (1, .int s), (2, .int 3)]) (st1 := [.int s, .int 1, .ref 113]) (w1 := (WX pgC pgL stC stL PA PS BB BT u)) (by decide +kernel) rfl ?_
      refine M.callVv (as := [.int 1, .int s]) (st := []) (nx := 47) okX0_writeBeside lkX0_105 (x_writeBeside (κ := κ) (pat := (y 0).1) g7 g8 (hy.1 0).1 (hy.1 0).2.1 (k := 1) (by decide) s) (by decide +kernel) (by decide) rfl (Nat.le_of_ble_eq_true rfl) rfl (by decide) ?_
      show g 0 0 47 [(3, .int 1), (0, .ref 113), (1, .int s), (2, .int 3)] [] (WX pgC pgL stC stL PA PS (va_up BB 0 ((besB κ 1 s (y 0).1 (BB 0)).2)) (upd BT 10 (nI (besB κ 1 s (y 0).1 (BB 0)).1)) u)
      refine M.blk (is := [(.aload_n 0, 0, 0, 0)]) (pc1 := 48) (lo1 := [(3, .int 1), (0, .ref 113), (1, .int s), (2, .int 3)]) (st1 := [.ref 113]) (w1 := (WX pgC pgL stC stL PA PS (va_up BB 0 ((besB κ 1 s (y 0).1 (BB 0)).2)) (upd BT 10 (nI (besB κ 1 s (y 0).1 (BB 0)).1)) u)) (by decide +kernel) rfl ?_
      refine M.callVv (as := []) (st := []) (nx := 51) okX0_hold lkX0_42 (x_hold (κ := κ) (pat := (besB κ 1 s (y 0).1 (BB 0)).1) g7 g8 rfl (by rw [besB_1 κ 1 s (y 0).1 (BB 0) 0 0]; exact mcB_lt (by decide) (hy.1 0).2.1)) (by decide +kernel) (by decide) rfl (Nat.le_of_ble_eq_true rfl) rfl (by decide) ?_
      show g 0 0 51 [(3, .int 1), (0, .ref 113), (1, .int s), (2, .int 3)] [] (WX pgC pgL stC stL PA PS (va_up BB 0 (hldF κ ((besB κ 1 s (y 0).1 (BB 0)).1) ((besB κ 1 s (y 0).1 (BB 0)).2))) (upd BT 10 (nI (besB κ 1 s (y 0).1 (BB 0)).1)) u)
      refine M.blk (is := [(.iinc 2 1, 2, 0, 1), (.goto (-52), 2, 0, 0)]) (pc1 := 2) (lo1 := [(2, .int 4), (3, .int 1), (0, .ref 113), (1, .int s)]) (st1 := []) (w1 := (WX pgC pgL stC stL PA PS (va_up BB 0 (hldF κ ((besB κ 1 s (y 0).1 (BB 0)).1) ((besB κ 1 s (y 0).1 (BB 0)).2))) (upd BT 10 (nI (besB κ 1 s (y 0).1 (BB 0)).1)) u)) (by decide +kernel) rfl ?_
      refine M.lsub [2, 3, 0] (lo1 := [(0, .ref 113), (1, .int s), (2, .int 4)]) rfl ?_
      exact L4 _ _ _ (BR_bes hy (b2i_t z22) (by decide) rfl rfl rfl) ⟨fun k hk => (va_upN _ _ hk).trans (hf.1 k hk), fun i h1 h2 => (pk_un h1).trans (hf.2 i h1 h2)⟩ he
    · refine M.blk (is := [(.goto 26, 51, 0, 0), (.iinc 2 1, 2, 0, 1), (.goto (-52), 2, 0, 0)]) (pc1 := 2) (lo1 := [(2, .int 4), (3, .int 1), (0, .ref 113), (1, .int s)]) (st1 := []) (w1 := (WX pgC pgL stC stL PA PS BB BT u)) (by decide +kernel) rfl ?_
      refine M.lsub [2, 3, 0] (lo1 := [(0, .ref 113), (1, .int s), (2, .int 4)]) rfl ?_
      exact L4 _ BB BT (BR_skip hy (b2i_f z22)) hf he
  have L2 : ∀ (y : Nat → Nat × Nat × Int32) BB BT, BR κ y BB BT → (∀ k, k ≠ 0 → BB k = BA k) ∧ (∀ i, i ≠ 10 → i ≠ 11 → BT i = BS i) → (∀ p, mcr κ p (BA 4) s 2 (mcr κ p (BA 4) s 1 (mcr κ p (BA 4) s 4 (y p))) = wSt κ p (BA 4) s (z p)) → g 0 0 2 [(0, .ref 113), (1, .int s), (2, .int 2)] [] (WX pgC pgL stC stL PA PS BB BT u) := by
    intro y BB BT hy hf he
    have g7 : BT 7 = kI κ := (hf.2 7 (by decide) (by decide)).trans h7
    have g8 : BT 8 = nI (ptsN κ) := (hf.2 8 (by decide) (by decide)).trans h8
    have g4 : BB 4 = BA 4 := hf.1 4 (by decide)
    refine M.blk (is := [(.iload_n 2, 2, 0, 0)]) (pc1 := 3) (lo1 := [(0, .ref 113), (1, .int s), (2, .int 2)]) (st1 := [.int 2]) (w1 := (WX pgC pgL stC stL PA PS BB BT u)) (by decide +kernel) rfl ?_
    refine M.gord (idx := 95) (nx := 6) (by decide +kernel) (lw_in 375 (by decide +kernel) (by decide +kernel)) ?_
    refine M.lord (nx := 7) (by decide +kernel) ?_
    refine M.icmp_ge (off := 50) (tgt := 57) (nx := 10) (by decide +kernel) (fun h => absurd h (by decide)) (fun _ => ?_)
    refine M.gord (idx := 95) (nx := 13) (by decide +kernel) (lw_in 375 (by decide +kernel) (by decide +kernel)) ?_
    refine M.blk (is := [(.iload_n 2, 2, 0, 0)]) (pc1 := 14) (lo1 := [(0, .ref 113), (1, .int s), (2, .int 2)]) (st1 := [.int 2, .ref 98]) (w1 := (WX pgC pgL stC stL PA PS BB BT u)) (by decide +kernel) rfl ?_
    refine M.aord (j := 2) (nx := 15) (by decide +kernel) rfl (by decide) ?_
    show g 0 0 15 [(0, .ref 113), (1, .int s), (2, .int 2)] [.int 4] (WX pgC pgL stC stL PA PS BB BT u)
    refine M.blk (is := [(.istore_n 3, 3, 0, 0), (.aload_n 0, 0, 0, 0), (.iload_n 3, 3, 0, 0), (.iload_n 1, 1, 0, 0)]) (pc1 := 19) (lo1 := [(3, .int 4), (0, .ref 113), (1, .int s), (2, .int 2)]) (st1 := [.int s, .int 4, .ref 113]) (w1 := (WX pgC pgL stC stL PA PS BB BT u)) (by decide +kernel) rfl ?_
    refine M.callVi (as := [.int 4, .int s]) (st := []) (nx := 22) okX0_isWritten lkX0_98 (x_isWritten (d := 4) (by decide) s) (by decide +kernel) (by decide) rfl (Nat.le_of_ble_eq_true rfl) rfl (by decide) ?_
    rw [g4]
    refine M.if_ne (off := 6) (tgt := 28) (nx := 25) (by decide +kernel) (fun z22 => ?_) (fun z22 => ?_)
    · refine M.blk (is := [(.iload_n 3, 3, 0, 0), (.iconst 4, 0, 0, 4)]) (pc1 := 30) (lo1 := [(3, .int 4), (0, .ref 113), (1, .int s), (2, .int 2)]) (st1 := [.int 4, .int 4]) (w1 := (WX pgC pgL stC stL PA PS BB BT u)) (by decide +kernel) rfl ?_
      refine M.icmp_ne (off := 11) (tgt := 41) (nx := 33) (by decide +kernel) (fun h => absurd h (by decide)) (fun _ => ?_)
      refine M.blk (is := [(.aload_n 0, 0, 0, 0), (.iload_n 1, 1, 0, 0)]) (pc1 := 35) (lo1 := [(3, .int 4), (0, .ref 113), (1, .int s), (2, .int 2)]) (st1 := [.int s, .ref 113]) (w1 := (WX pgC pgL stC stL PA PS BB BT u)) (by decide +kernel) rfl ?_
      refine M.callVv (as := [.int s]) (st := []) (nx := 38) okX0_writeItself lkX0_102 (x_writeItself (κ := κ) (pat := (y 0).1) (sh := (y 0).2.1) g7 g8 (hy.1 0).1 (hy.1 0).2.1 (hy.1 0).2.2.1 (hy.1 0).2.2.2 s) (by decide +kernel) (by decide) rfl (Nat.le_of_ble_eq_true rfl) rfl (by decide) ?_
      show g 0 0 38 [(3, .int 4), (0, .ref 113), (1, .int s), (2, .int 2)] [] (WX pgC pgL stC stL PA PS (va_up BB 0 (itsF κ (ptsN κ) (y 0).1 (wrN s (y 0).2.1) (BB 0))) (upd BT 11 (nI (wrN s (y 0).2.1))) u)
      refine M.blk (is := [(.goto 9, 47, 0, 0), (.aload_n 0, 0, 0, 0)]) (pc1 := 48) (lo1 := [(3, .int 4), (0, .ref 113), (1, .int s), (2, .int 2)]) (st1 := [.ref 113]) (w1 := (WX pgC pgL stC stL PA PS (va_up BB 0 (itsF κ (ptsN κ) (y 0).1 (wrN s (y 0).2.1) (BB 0))) (upd BT 11 (nI (wrN s (y 0).2.1))) u)) (by decide +kernel) rfl ?_
      refine M.callVv (as := []) (st := []) (nx := 51) okX0_hold lkX0_42 (x_hold (κ := κ) (pat := (y 0).1) g7 g8 (hy.1 0).1 (hy.1 0).2.1) (by decide +kernel) (by decide) rfl (Nat.le_of_ble_eq_true rfl) rfl (by decide) ?_
      show g 0 0 51 [(3, .int 4), (0, .ref 113), (1, .int s), (2, .int 2)] [] (WX pgC pgL stC stL PA PS (va_up BB 0 (hldF κ ((y 0).1) (itsF κ (ptsN κ) (y 0).1 (wrN s (y 0).2.1) (BB 0)))) (upd BT 11 (nI (wrN s (y 0).2.1))) u)
      refine M.blk (is := [(.iinc 2 1, 2, 0, 1), (.goto (-52), 2, 0, 0)]) (pc1 := 2) (lo1 := [(2, .int 3), (3, .int 4), (0, .ref 113), (1, .int s)]) (st1 := []) (w1 := (WX pgC pgL stC stL PA PS (va_up BB 0 (hldF κ ((y 0).1) (itsF κ (ptsN κ) (y 0).1 (wrN s (y 0).2.1) (BB 0)))) (upd BT 11 (nI (wrN s (y 0).2.1))) u)) (by decide +kernel) rfl ?_
      refine M.lsub [2, 3, 0] (lo1 := [(0, .ref 113), (1, .int s), (2, .int 3)]) rfl ?_
      exact L3 _ _ _ (BR_its hy (b2i_t z22) rfl rfl rfl) ⟨fun k hk => (va_upN _ _ hk).trans (hf.1 k hk), fun i h1 h2 => (pk_un h2).trans (hf.2 i h1 h2)⟩ he
    · refine M.blk (is := [(.goto 26, 51, 0, 0), (.iinc 2 1, 2, 0, 1), (.goto (-52), 2, 0, 0)]) (pc1 := 2) (lo1 := [(2, .int 3), (3, .int 4), (0, .ref 113), (1, .int s)]) (st1 := []) (w1 := (WX pgC pgL stC stL PA PS BB BT u)) (by decide +kernel) rfl ?_
      refine M.lsub [2, 3, 0] (lo1 := [(0, .ref 113), (1, .int s), (2, .int 3)]) rfl ?_
      exact L3 _ BB BT (BR_skip hy (b2i_f z22)) hf he
  have L1 : ∀ (y : Nat → Nat × Nat × Int32) BB BT, BR κ y BB BT → (∀ k, k ≠ 0 → BB k = BA k) ∧ (∀ i, i ≠ 10 → i ≠ 11 → BT i = BS i) → (∀ p, mcr κ p (BA 4) s 2 (mcr κ p (BA 4) s 1 (mcr κ p (BA 4) s 4 (mcr κ p (BA 4) s 3 (y p)))) = wSt κ p (BA 4) s (z p)) → g 0 0 2 [(0, .ref 113), (1, .int s), (2, .int 1)] [] (WX pgC pgL stC stL PA PS BB BT u) := by
    intro y BB BT hy hf he
    have g7 : BT 7 = kI κ := (hf.2 7 (by decide) (by decide)).trans h7
    have g8 : BT 8 = nI (ptsN κ) := (hf.2 8 (by decide) (by decide)).trans h8
    have g4 : BB 4 = BA 4 := hf.1 4 (by decide)
    refine M.blk (is := [(.iload_n 2, 2, 0, 0)]) (pc1 := 3) (lo1 := [(0, .ref 113), (1, .int s), (2, .int 1)]) (st1 := [.int 1]) (w1 := (WX pgC pgL stC stL PA PS BB BT u)) (by decide +kernel) rfl ?_
    refine M.gord (idx := 95) (nx := 6) (by decide +kernel) (lw_in 375 (by decide +kernel) (by decide +kernel)) ?_
    refine M.lord (nx := 7) (by decide +kernel) ?_
    refine M.icmp_ge (off := 50) (tgt := 57) (nx := 10) (by decide +kernel) (fun h => absurd h (by decide)) (fun _ => ?_)
    refine M.gord (idx := 95) (nx := 13) (by decide +kernel) (lw_in 375 (by decide +kernel) (by decide +kernel)) ?_
    refine M.blk (is := [(.iload_n 2, 2, 0, 0)]) (pc1 := 14) (lo1 := [(0, .ref 113), (1, .int s), (2, .int 1)]) (st1 := [.int 1, .ref 98]) (w1 := (WX pgC pgL stC stL PA PS BB BT u)) (by decide +kernel) rfl ?_
    refine M.aord (j := 1) (nx := 15) (by decide +kernel) rfl (by decide) ?_
    show g 0 0 15 [(0, .ref 113), (1, .int s), (2, .int 1)] [.int 3] (WX pgC pgL stC stL PA PS BB BT u)
    refine M.blk (is := [(.istore_n 3, 3, 0, 0), (.aload_n 0, 0, 0, 0), (.iload_n 3, 3, 0, 0), (.iload_n 1, 1, 0, 0)]) (pc1 := 19) (lo1 := [(3, .int 3), (0, .ref 113), (1, .int s), (2, .int 1)]) (st1 := [.int s, .int 3, .ref 113]) (w1 := (WX pgC pgL stC stL PA PS BB BT u)) (by decide +kernel) rfl ?_
    refine M.callVi (as := [.int 3, .int s]) (st := []) (nx := 22) okX0_isWritten lkX0_98 (x_isWritten (d := 3) (by decide) s) (by decide +kernel) (by decide) rfl (Nat.le_of_ble_eq_true rfl) rfl (by decide) ?_
    rw [g4]
    refine M.if_ne (off := 6) (tgt := 28) (nx := 25) (by decide +kernel) (fun z22 => ?_) (fun z22 => ?_)
    · refine M.blk (is := [(.iload_n 3, 3, 0, 0), (.iconst 4, 0, 0, 4)]) (pc1 := 30) (lo1 := [(3, .int 3), (0, .ref 113), (1, .int s), (2, .int 1)]) (st1 := [.int 4, .int 3]) (w1 := (WX pgC pgL stC stL PA PS BB BT u)) (by decide +kernel) rfl ?_
      refine M.icmp_ne (off := 11) (tgt := 41) (nx := 33) (by decide +kernel) (fun _ => ?_) (fun h => absurd h (by decide))
      refine M.blk (is := [(.aload_n 0, 0, 0, 0), (.iload_n 3, 3, 0, 0), (.iload_n 1, 1, 0, 0)]) (pc1 := 44) (lo1 := [(3, .int 3), (0, .ref 113), (1, .int s), (2, .int 1)]) (st1 := [.int s, .int 3, .ref 113]) (w1 := (WX pgC pgL stC stL PA PS BB BT u)) (by decide +kernel) rfl ?_
      refine M.callVv (as := [.int 3, .int s]) (st := []) (nx := 47) okX0_writeBeside lkX0_105 (x_writeBeside (κ := κ) (pat := (y 0).1) g7 g8 (hy.1 0).1 (hy.1 0).2.1 (k := 3) (by decide) s) (by decide +kernel) (by decide) rfl (Nat.le_of_ble_eq_true rfl) rfl (by decide) ?_
      show g 0 0 47 [(3, .int 3), (0, .ref 113), (1, .int s), (2, .int 1)] [] (WX pgC pgL stC stL PA PS (va_up BB 0 ((besB κ 3 s (y 0).1 (BB 0)).2)) (upd BT 10 (nI (besB κ 3 s (y 0).1 (BB 0)).1)) u)
      refine M.blk (is := [(.aload_n 0, 0, 0, 0)]) (pc1 := 48) (lo1 := [(3, .int 3), (0, .ref 113), (1, .int s), (2, .int 1)]) (st1 := [.ref 113]) (w1 := (WX pgC pgL stC stL PA PS (va_up BB 0 ((besB κ 3 s (y 0).1 (BB 0)).2)) (upd BT 10 (nI (besB κ 3 s (y 0).1 (BB 0)).1)) u)) (by decide +kernel) rfl ?_
      refine M.callVv (as := []) (st := []) (nx := 51) okX0_hold lkX0_42 (x_hold (κ := κ) (pat := (besB κ 3 s (y 0).1 (BB 0)).1) g7 g8 rfl (by rw [besB_1 κ 3 s (y 0).1 (BB 0) 0 0]; exact mcB_lt (by decide) (hy.1 0).2.1)) (by decide +kernel) (by decide) rfl (Nat.le_of_ble_eq_true rfl) rfl (by decide) ?_
      show g 0 0 51 [(3, .int 3), (0, .ref 113), (1, .int s), (2, .int 1)] [] (WX pgC pgL stC stL PA PS (va_up BB 0 (hldF κ ((besB κ 3 s (y 0).1 (BB 0)).1) ((besB κ 3 s (y 0).1 (BB 0)).2))) (upd BT 10 (nI (besB κ 3 s (y 0).1 (BB 0)).1)) u)
      refine M.blk (is := [(.iinc 2 1, 2, 0, 1), (.goto (-52), 2, 0, 0)]) (pc1 := 2) (lo1 := [(2, .int 2), (3, .int 3), (0, .ref 113), (1, .int s)]) (st1 := []) (w1 := (WX pgC pgL stC stL PA PS (va_up BB 0 (hldF κ ((besB κ 3 s (y 0).1 (BB 0)).1) ((besB κ 3 s (y 0).1 (BB 0)).2))) (upd BT 10 (nI (besB κ 3 s (y 0).1 (BB 0)).1)) u)) (by decide +kernel) rfl ?_
      refine M.lsub [2, 3, 0] (lo1 := [(0, .ref 113), (1, .int s), (2, .int 2)]) rfl ?_
      exact L2 _ _ _ (BR_bes hy (b2i_t z22) (by decide) rfl rfl rfl) ⟨fun k hk => (va_upN _ _ hk).trans (hf.1 k hk), fun i h1 h2 => (pk_un h1).trans (hf.2 i h1 h2)⟩ he
    · refine M.blk (is := [(.goto 26, 51, 0, 0), (.iinc 2 1, 2, 0, 1), (.goto (-52), 2, 0, 0)]) (pc1 := 2) (lo1 := [(2, .int 2), (3, .int 3), (0, .ref 113), (1, .int s)]) (st1 := []) (w1 := (WX pgC pgL stC stL PA PS BB BT u)) (by decide +kernel) rfl ?_
      refine M.lsub [2, 3, 0] (lo1 := [(0, .ref 113), (1, .int s), (2, .int 2)]) rfl ?_
      exact L2 _ BB BT (BR_skip hy (b2i_f z22)) hf he
  have L0 : ∀ (y : Nat → Nat × Nat × Int32) BB BT, BR κ y BB BT → (∀ k, k ≠ 0 → BB k = BA k) ∧ (∀ i, i ≠ 10 → i ≠ 11 → BT i = BS i) → (∀ p, mcr κ p (BA 4) s 2 (mcr κ p (BA 4) s 1 (mcr κ p (BA 4) s 4 (mcr κ p (BA 4) s 3 (mcr κ p (BA 4) s 0 (y p))))) = wSt κ p (BA 4) s (z p)) → g 0 0 2 [(0, .ref 113), (1, .int s), (2, .int 0)] [] (WX pgC pgL stC stL PA PS BB BT u) := by
    intro y BB BT hy hf he
    have g7 : BT 7 = kI κ := (hf.2 7 (by decide) (by decide)).trans h7
    have g8 : BT 8 = nI (ptsN κ) := (hf.2 8 (by decide) (by decide)).trans h8
    have g4 : BB 4 = BA 4 := hf.1 4 (by decide)
    refine M.blk (is := [(.iload_n 2, 2, 0, 0)]) (pc1 := 3) (lo1 := [(0, .ref 113), (1, .int s), (2, .int 0)]) (st1 := [.int 0]) (w1 := (WX pgC pgL stC stL PA PS BB BT u)) (by decide +kernel) rfl ?_
    refine M.gord (idx := 95) (nx := 6) (by decide +kernel) (lw_in 375 (by decide +kernel) (by decide +kernel)) ?_
    refine M.lord (nx := 7) (by decide +kernel) ?_
    refine M.icmp_ge (off := 50) (tgt := 57) (nx := 10) (by decide +kernel) (fun h => absurd h (by decide)) (fun _ => ?_)
    refine M.gord (idx := 95) (nx := 13) (by decide +kernel) (lw_in 375 (by decide +kernel) (by decide +kernel)) ?_
    refine M.blk (is := [(.iload_n 2, 2, 0, 0)]) (pc1 := 14) (lo1 := [(0, .ref 113), (1, .int s), (2, .int 0)]) (st1 := [.int 0, .ref 98]) (w1 := (WX pgC pgL stC stL PA PS BB BT u)) (by decide +kernel) rfl ?_
    refine M.aord (j := 0) (nx := 15) (by decide +kernel) rfl (by decide) ?_
    show g 0 0 15 [(0, .ref 113), (1, .int s), (2, .int 0)] [.int 0] (WX pgC pgL stC stL PA PS BB BT u)
    refine M.blk (is := [(.istore_n 3, 3, 0, 0), (.aload_n 0, 0, 0, 0), (.iload_n 3, 3, 0, 0), (.iload_n 1, 1, 0, 0)]) (pc1 := 19) (lo1 := [(3, .int 0), (0, .ref 113), (1, .int s), (2, .int 0)]) (st1 := [.int s, .int 0, .ref 113]) (w1 := (WX pgC pgL stC stL PA PS BB BT u)) (by decide +kernel) rfl ?_
    refine M.callVi (as := [.int 0, .int s]) (st := []) (nx := 22) okX0_isWritten lkX0_98 (x_isWritten (d := 0) (by decide) s) (by decide +kernel) (by decide) rfl (Nat.le_of_ble_eq_true rfl) rfl (by decide) ?_
    rw [g4]
    refine M.if_ne (off := 6) (tgt := 28) (nx := 25) (by decide +kernel) (fun z22 => ?_) (fun z22 => ?_)
    · refine M.blk (is := [(.iload_n 3, 3, 0, 0), (.iconst 4, 0, 0, 4)]) (pc1 := 30) (lo1 := [(3, .int 0), (0, .ref 113), (1, .int s), (2, .int 0)]) (st1 := [.int 4, .int 0]) (w1 := (WX pgC pgL stC stL PA PS BB BT u)) (by decide +kernel) rfl ?_
      refine M.icmp_ne (off := 11) (tgt := 41) (nx := 33) (by decide +kernel) (fun _ => ?_) (fun h => absurd h (by decide))
      refine M.blk (is := [(.aload_n 0, 0, 0, 0), (.iload_n 3, 3, 0, 0), (.iload_n 1, 1, 0, 0)]) (pc1 := 44) (lo1 := [(3, .int 0), (0, .ref 113), (1, .int s), (2, .int 0)]) (st1 := [.int s, .int 0, .ref 113]) (w1 := (WX pgC pgL stC stL PA PS BB BT u)) (by decide +kernel) rfl ?_
      refine M.callVv (as := [.int 0, .int s]) (st := []) (nx := 47) okX0_writeBeside lkX0_105 (x_writeBeside (κ := κ) (pat := (y 0).1) g7 g8 (hy.1 0).1 (hy.1 0).2.1 (k := 0) (by decide) s) (by decide +kernel) (by decide) rfl (Nat.le_of_ble_eq_true rfl) rfl (by decide) ?_
      show g 0 0 47 [(3, .int 0), (0, .ref 113), (1, .int s), (2, .int 0)] [] (WX pgC pgL stC stL PA PS (va_up BB 0 ((besB κ 0 s (y 0).1 (BB 0)).2)) (upd BT 10 (nI (besB κ 0 s (y 0).1 (BB 0)).1)) u)
      refine M.blk (is := [(.aload_n 0, 0, 0, 0)]) (pc1 := 48) (lo1 := [(3, .int 0), (0, .ref 113), (1, .int s), (2, .int 0)]) (st1 := [.ref 113]) (w1 := (WX pgC pgL stC stL PA PS (va_up BB 0 ((besB κ 0 s (y 0).1 (BB 0)).2)) (upd BT 10 (nI (besB κ 0 s (y 0).1 (BB 0)).1)) u)) (by decide +kernel) rfl ?_
      refine M.callVv (as := []) (st := []) (nx := 51) okX0_hold lkX0_42 (x_hold (κ := κ) (pat := (besB κ 0 s (y 0).1 (BB 0)).1) g7 g8 rfl (by rw [besB_1 κ 0 s (y 0).1 (BB 0) 0 0]; exact mcB_lt (by decide) (hy.1 0).2.1)) (by decide +kernel) (by decide) rfl (Nat.le_of_ble_eq_true rfl) rfl (by decide) ?_
      show g 0 0 51 [(3, .int 0), (0, .ref 113), (1, .int s), (2, .int 0)] [] (WX pgC pgL stC stL PA PS (va_up BB 0 (hldF κ ((besB κ 0 s (y 0).1 (BB 0)).1) ((besB κ 0 s (y 0).1 (BB 0)).2))) (upd BT 10 (nI (besB κ 0 s (y 0).1 (BB 0)).1)) u)
      refine M.blk (is := [(.iinc 2 1, 2, 0, 1), (.goto (-52), 2, 0, 0)]) (pc1 := 2) (lo1 := [(2, .int 1), (3, .int 0), (0, .ref 113), (1, .int s)]) (st1 := []) (w1 := (WX pgC pgL stC stL PA PS (va_up BB 0 (hldF κ ((besB κ 0 s (y 0).1 (BB 0)).1) ((besB κ 0 s (y 0).1 (BB 0)).2))) (upd BT 10 (nI (besB κ 0 s (y 0).1 (BB 0)).1)) u)) (by decide +kernel) rfl ?_
      refine M.lsub [2, 3, 0] (lo1 := [(0, .ref 113), (1, .int s), (2, .int 1)]) rfl ?_
      exact L1 _ _ _ (BR_bes hy (b2i_t z22) (by decide) rfl rfl rfl) ⟨fun k hk => (va_upN _ _ hk).trans (hf.1 k hk), fun i h1 h2 => (pk_un h1).trans (hf.2 i h1 h2)⟩ he
    · refine M.blk (is := [(.goto 26, 51, 0, 0), (.iinc 2 1, 2, 0, 1), (.goto (-52), 2, 0, 0)]) (pc1 := 2) (lo1 := [(2, .int 1), (3, .int 0), (0, .ref 113), (1, .int s)]) (st1 := []) (w1 := (WX pgC pgL stC stL PA PS BB BT u)) (by decide +kernel) rfl ?_
      refine M.lsub [2, 3, 0] (lo1 := [(0, .ref 113), (1, .int s), (2, .int 1)]) rfl ?_
      exact L1 _ BB BT (BR_skip hy (b2i_f z22)) hf he
  show g 0 0 0 [(0, .ref 113), (1, .int s)] [] (WX pgC pgL stC stL PA PS BA BS u)
  refine M.blk (is := [(.iconst 0, 0, 0, 0), (.istore_n 2, 2, 0, 0)]) (pc1 := 2) (lo1 := [(2, .int 0), (0, .ref 113), (1, .int s)]) (st1 := []) (w1 := (WX pgC pgL stC stL PA PS BA BS u)) (by decide +kernel) rfl ?_
  refine M.lsub [1, 2, 0] (lo1 := [(0, .ref 113), (1, .int s), (2, .int 0)]) rfl ?_
  exact L0 z BA BS hbr ⟨fun _ _ => rfl, fun _ _ _ => rfl⟩ (fun p => rfl)
theorem min_parts (κ : Nat) : (if (128 : Int32) < partsI (kI κ) then 128 else partsI (kI κ)) = nI (ptsN κ) := by
  rw [parts_kI]
  have h := ptsN_le κ
  rw [if_neg (show ¬ (128 : Int32) < nI (ptsN κ) from nI_nlt (a := 128) h (by decide))]
theorem x_begin {κ : Nat} (h7 : BS 7 = kI κ) : CC 2 mX0_begin 0 0 [.ref 113, .ref 105] (WX pgC pgL stC stL PA PS BA BS u) (fun r0 w1 => r0 = none ∧ ∃ BB, w1 = (WX pgC pgL stC stL PA PS BB (upd (upd (upd (upd (upd BS 8 (nI (ptsN κ))) 9 (thF PA PS (BS 6))) 10 0) 11 0) 12 0) u) ∧ (∀ p, p < ptsN κ → BB 0 p = 0 ∧ BB 1 p = 0) ∧ (∀ d, d < 4 → BB 4 d = tyF PA PS (beF PA PS (BS 6) (nI d))) ∧ BB 4 4 = tyF PA PS (BS 6)) := by
  have hP := ptsN_le κ
  refine CC.of okX0_begin.1 (Nat.le_of_ble_eq_true rfl) (fun g M => ?_)
  have lp2 : ∀ m k BB, k + m = 4 → (∀ p, p < ptsN κ → BB 0 p = 0 ∧ BB 1 p = 0) → (∀ d, d < k → BB 4 d = tyF PA PS (beF PA PS (BS 6) (nI d))) → g 0 0 76 [(0, .ref 113), (1, .ref 105), (2, .int (nI k))] [] (WX pgC pgL stC stL PA PS BB (upd (upd (upd (upd (upd BS 8 (nI (ptsN κ))) 9 (thF PA PS (BS 6))) 10 0) 11 0) 12 0) u) := by
    intro m
    induction m with
    | zero =>
      intro k BB hk h0 ht
      have ek : k = 4 := by omega
      subst ek
      refine M.blk (is := [(.iload_n 2, 2, 0, 0), (.iconst 4, 0, 0, 4)]) (pc1 := 78) (lo1 := [(0, .ref 113), (1, .ref 105), (2, .int (nI 4))]) (st1 := [.int 4, .int (nI 4)]) (w1 := (WX pgC pgL stC stL PA PS BB (upd (upd (upd (upd (upd BS 8 (nI (ptsN κ))) 9 (thF PA PS (BS 6))) 10 0) 11 0) 12 0) u)) (by decide +kernel) rfl ?_
      refine M.icmp_ge (off := 28) (tgt := 106) (nx := 81) (by decide +kernel) (fun z78 => ?_) (fun z78 => by exfalso; exact z78 (by decide))
      refine M.blk (is := [(.aload_n 0, 0, 0, 0), (.getfield 24, 0, 4, 0), (.iconst 4, 0, 0, 4), (.aload_n 1, 1, 0, 0), (.aload_n 0, 0, 0, 0), (.getfield 31, 0, 6, 0)]) (pc1 := 116) (lo1 := [(0, .ref 113), (1, .ref 105), (2, .int (nI 4))]) (st1 := [.int (BS 6), .ref 105, .int 4, .ref 118]) (w1 := (WX pgC pgL stC stL PA PS BB (upd (upd (upd (upd (upd BS 8 (nI (ptsN κ))) 9 (thF PA PS (BS 6))) 10 0) 11 0) 12 0) u)) (by decide +kernel) rfl ?_
      refine M.callVi (as := [.int (BS 6)]) (st := [.int 4, .ref 118]) (nx := 119) okX1_typeOf lkX0_92 (x_typeOf (BS 6)) (by decide +kernel) (by decide) rfl (Nat.le_of_ble_eq_true rfl) rfl (by decide) ?_
      refine M.ast (n := 5) (f := BB 4) (j := 4) (nx := 120) (by decide +kernel) rfl rfl (by decide) (by decide) ?_
      show g 0 0 120 [(0, .ref 113), (1, .ref 105), (2, .int (nI 4))] [] (WX pgC pgL stC stL PA PS (va_up BB 4 (upd (BB 4) 4 (tyF PA PS (BS 6)))) (upd (upd (upd (upd (upd BS 8 (nI (ptsN κ))) 9 (thF PA PS (BS 6))) 10 0) 11 0) 12 0) u)
      exact M.retv (nx := 121) (by decide +kernel) ⟨rfl, _, rfl, h0, fun d hd => by rw [va_upS, pk_un (by omega)]; exact ht d hd, by rw [va_upS, pk_us]⟩
    | succ m ih =>
      intro k BB hk h0 ht
      refine M.blk (is := [(.iload_n 2, 2, 0, 0), (.iconst 4, 0, 0, 4)]) (pc1 := 78) (lo1 := [(0, .ref 113), (1, .ref 105), (2, .int (nI k))]) (st1 := [.int 4, .int (nI k)]) (w1 := (WX pgC pgL stC stL PA PS BB (upd (upd (upd (upd (upd BS 8 (nI (ptsN κ))) 9 (thF PA PS (BS 6))) 10 0) 11 0) 12 0) u)) (by decide +kernel) rfl ?_
      refine M.icmp_ge (off := 28) (tgt := 106) (nx := 81) (by decide +kernel) (fun z78 => by exfalso; exact nI_ge (a := k) (b := 4) (by omega) (by decide) z78) (fun z78 => ?_)
      refine M.blk (is := [(.aload_n 0, 0, 0, 0), (.getfield 24, 0, 4, 0), (.iload_n 2, 2, 0, 0), (.aload_n 1, 1, 0, 0), (.aload_n 1, 1, 0, 0), (.aload_n 0, 0, 0, 0), (.getfield 31, 0, 6, 0), (.iload_n 2, 2, 0, 0)]) (pc1 := 93) (lo1 := [(0, .ref 113), (1, .ref 105), (2, .int (nI k))]) (st1 := [.int (nI k), .int (BS 6), .ref 105, .ref 105, .int (nI k), .ref 118]) (w1 := (WX pgC pgL stC stL PA PS BB (upd (upd (upd (upd (upd BS 8 (nI (ptsN κ))) 9 (thF PA PS (BS 6))) 10 0) 11 0) 12 0) u)) (by decide +kernel) rfl ?_
      refine M.callVi (as := [.int (BS 6), .int (nI k)]) (st := [.ref 105, .int (nI k), .ref 118]) (nx := 96) okX1_beside lkX0_89 (x_beside (BS 6) (nI k)) (by decide +kernel) (by decide) rfl (Nat.le_of_ble_eq_true rfl) rfl (by decide) ?_
      refine M.callVi (as := [.int (beF PA PS (BS 6) (nI k))]) (st := [.int (nI k), .ref 118]) (nx := 99) okX1_typeOf lkX0_92 (x_typeOf (beF PA PS (BS 6) (nI k))) (by decide +kernel) (by decide) rfl (Nat.le_of_ble_eq_true rfl) rfl (by decide) ?_
      refine M.ast (n := 5) (f := BB 4) (j := k) (nx := 100) (by decide +kernel) rfl rfl (by omega) (by decide) ?_
      show g 0 0 100 [(0, .ref 113), (1, .ref 105), (2, .int (nI k))] [] (WX pgC pgL stC stL PA PS (va_up BB 4 (upd (BB 4) k (tyF PA PS (beF PA PS (BS 6) (nI k))))) (upd (upd (upd (upd (upd BS 8 (nI (ptsN κ))) 9 (thF PA PS (BS 6))) 10 0) 11 0) 12 0) u)
      refine M.blk (is := [(.iinc 2 1, 2, 0, 1), (.goto (-27), 76, 0, 0)]) (pc1 := 76) (lo1 := [(2, .int ((nI k) + 1)), (0, .ref 113), (1, .ref 105)]) (st1 := []) (w1 := (WX pgC pgL stC stL PA PS (va_up BB 4 (upd (BB 4) k (tyF PA PS (beF PA PS (BS 6) (nI k))))) (upd (upd (upd (upd (upd BS 8 (nI (ptsN κ))) 9 (thF PA PS (BS 6))) 10 0) 11 0) 12 0) u)) (by decide +kernel) rfl ?_
      refine M.lsub [1, 2, 0] (lo1 := [(0, .ref 113), (1, .ref 105), (2, .int ((nI k) + 1))]) rfl ?_
      rw [nI_1]
      refine ih (k + 1) _ (by omega) h0 (fun d hd => ?_)
      by_cases e : d = k
      · subst e; exact pk_us
      · exact (pk_un e).trans (ht d (by omega))
  have lp1 : ∀ m k BB, k + m = ptsN κ → (∀ p, p < k → BB 0 p = 0 ∧ BB 1 p = 0) → g 0 0 46 [(0, .ref 113), (1, .ref 105), (2, .int (nI k))] [] (WX pgC pgL stC stL PA PS BB (upd (upd (upd (upd (upd BS 8 (nI (ptsN κ))) 9 (thF PA PS (BS 6))) 10 0) 11 0) 12 0) u) := by
    intro m
    induction m with
    | zero =>
      intro k BB hk h0
      have ek : ptsN κ = k := by omega
      rw [← ek] at h0 ⊢
      refine M.blk (is := [(.iload_n 2, 2, 0, 0), (.aload_n 0, 0, 0, 0), (.getfield 70, 0, 8, 0)]) (pc1 := 51) (lo1 := [(0, .ref 113), (1, .ref 105), (2, .int (nI (ptsN κ)))]) (st1 := [.int (nI (ptsN κ)), .int (nI (ptsN κ))]) (w1 := (WX pgC pgL stC stL PA PS BB (upd (upd (upd (upd (upd BS 8 (nI (ptsN κ))) 9 (thF PA PS (BS 6))) 10 0) 11 0) 12 0) u)) (by decide +kernel) rfl ?_
      refine M.icmp_ge (off := 23) (tgt := 74) (nx := 54) (by decide +kernel) (fun z51 => ?_) (fun z51 => by exfalso; exact z51 (nI_le (Nat.le_refl _) (by omega)))
      refine M.blk (is := [(.iconst 0, 0, 0, 0), (.istore_n 2, 2, 0, 0)]) (pc1 := 76) (lo1 := [(2, .int 0), (0, .ref 113), (1, .ref 105)]) (st1 := []) (w1 := (WX pgC pgL stC stL PA PS BB (upd (upd (upd (upd (upd BS 8 (nI (ptsN κ))) 9 (thF PA PS (BS 6))) 10 0) 11 0) 12 0) u)) (by decide +kernel) rfl ?_
      refine M.lsub [1, 2, 0] (lo1 := [(0, .ref 113), (1, .ref 105), (2, .int 0)]) rfl ?_
      exact lp2 4 0 BB (by omega) h0 (fun d hd => absurd hd (Nat.not_lt_zero _))
    | succ m ih =>
      intro k BB hk h0
      refine M.blk (is := [(.iload_n 2, 2, 0, 0), (.aload_n 0, 0, 0, 0), (.getfield 70, 0, 8, 0)]) (pc1 := 51) (lo1 := [(0, .ref 113), (1, .ref 105), (2, .int (nI k))]) (st1 := [.int (nI (ptsN κ)), .int (nI k)]) (w1 := (WX pgC pgL stC stL PA PS BB (upd (upd (upd (upd (upd BS 8 (nI (ptsN κ))) 9 (thF PA PS (BS 6))) 10 0) 11 0) 12 0) u)) (by decide +kernel) rfl ?_
      refine M.icmp_ge (off := 23) (tgt := 74) (nx := 54) (by decide +kernel) (fun z51 => by exfalso; exact nI_ge (show k < ptsN κ by omega) (by omega) z51) (fun z51 => ?_)
      refine M.blk (is := [(.aload_n 0, 0, 0, 0), (.getfield 9, 0, 0, 0), (.iload_n 2, 2, 0, 0), (.iconst 0, 0, 0, 0)]) (pc1 := 60) (lo1 := [(0, .ref 113), (1, .ref 105), (2, .int (nI k))]) (st1 := [.int 0, .int (nI k), .ref 114]) (w1 := (WX pgC pgL stC stL PA PS BB (upd (upd (upd (upd (upd BS 8 (nI (ptsN κ))) 9 (thF PA PS (BS 6))) 10 0) 11 0) 12 0) u)) (by decide +kernel) rfl ?_
      refine M.ast (n := 128) (f := BB 0) (j := k) (nx := 61) (by decide +kernel) rfl rfl (by omega) (by decide) ?_
      show g 0 0 61 [(0, .ref 113), (1, .ref 105), (2, .int (nI k))] [] (WX pgC pgL stC stL PA PS (va_up BB 0 (upd (BB 0) k 0)) (upd (upd (upd (upd (upd BS 8 (nI (ptsN κ))) 9 (thF PA PS (BS 6))) 10 0) 11 0) 12 0) u)
      refine M.blk (is := [(.aload_n 0, 0, 0, 0), (.getfield 15, 0, 1, 0), (.iload_n 2, 2, 0, 0), (.iconst 0, 0, 0, 0)]) (pc1 := 67) (lo1 := [(0, .ref 113), (1, .ref 105), (2, .int (nI k))]) (st1 := [.int 0, .int (nI k), .ref 115]) (w1 := (WX pgC pgL stC stL PA PS (va_up BB 0 (upd (BB 0) k 0)) (upd (upd (upd (upd (upd BS 8 (nI (ptsN κ))) 9 (thF PA PS (BS 6))) 10 0) 11 0) 12 0) u)) (by decide +kernel) rfl ?_
      refine M.ast (n := 128) (f := BB 1) (j := k) (nx := 68) (by decide +kernel) rfl rfl (by omega) (by decide) ?_
      show g 0 0 68 [(0, .ref 113), (1, .ref 105), (2, .int (nI k))] [] (WX pgC pgL stC stL PA PS (va_up (va_up BB 0 (upd (BB 0) k 0)) 1 (upd (BB 1) k 0)) (upd (upd (upd (upd (upd BS 8 (nI (ptsN κ))) 9 (thF PA PS (BS 6))) 10 0) 11 0) 12 0) u)
      refine M.blk (is := [(.iinc 2 1, 2, 0, 1), (.goto (-25), 46, 0, 0)]) (pc1 := 46) (lo1 := [(2, .int ((nI k) + 1)), (0, .ref 113), (1, .ref 105)]) (st1 := []) (w1 := (WX pgC pgL stC stL PA PS (va_up (va_up BB 0 (upd (BB 0) k 0)) 1 (upd (BB 1) k 0)) (upd (upd (upd (upd (upd BS 8 (nI (ptsN κ))) 9 (thF PA PS (BS 6))) 10 0) 11 0) 12 0) u)) (by decide +kernel) rfl ?_
      refine M.lsub [1, 2, 0] (lo1 := [(0, .ref 113), (1, .ref 105), (2, .int ((nI k) + 1))]) rfl ?_
      rw [nI_1]
      refine ih (k + 1) _ (by omega) (fun p hp => ?_)
      by_cases e : p = k
      · subst e; exact ⟨pk_us, pk_us⟩
      · exact ⟨(pk_un e).trans (h0 p (by omega)).1, (pk_un e).trans (h0 p (by omega)).2⟩
  show g 0 0 0 [(0, .ref 113), (1, .ref 105)] [] (WX pgC pgL stC stL PA PS BA BS u)
  refine M.blk (is := [(.aload_n 0, 0, 0, 0), (.aload_n 0, 0, 0, 0), (.getfield 35, 0, 7, 0)]) (pc1 := 5) (lo1 := [(0, .ref 113), (1, .ref 105)]) (st1 := [.int (BS 7), .ref 113]) (w1 := (WX pgC pgL stC stL PA PS BA BS u)) (by decide +kernel) rfl ?_
  refine M.callSi (as := [.int (BS 7)]) (st := [.ref 113]) (nx := 8) okX3_partsOf lkX0_61 (s_partsOf (WX pgC pgL stC stL PA PS BA BS u) (BS 7)) (by decide +kernel) (by decide) rfl (Nat.le_of_ble_eq_true rfl) ?_
  refine M.blk (is := [(.sipush 128, 0, 0, 128)]) (pc1 := 11) (lo1 := [(0, .ref 113), (1, .ref 105)]) (st1 := [.int 128, .int (partsI (BS 7)), .ref 113]) (w1 := (WX pgC pgL stC stL PA PS BA BS u)) (by decide +kernel) rfl ?_
  refine M.mmin (idx := 64) (nx := 14) (by decide +kernel) (lw_in 356 (by decide +kernel) (by decide +kernel)) (lw_in 357 (by decide +kernel) (by decide +kernel)) (lw_in 60 (by decide +kernel) (by decide +kernel)) (lw_in 358 (by decide +kernel) (by decide +kernel)) (by decide) (Nat.le_of_ble_eq_true rfl) (by decide) (by decide) ?_
  rw [h7, min_parts]
  refine M.blk (is := [(.putfield 70, 0, 8, 0), (.aload_n 0, 0, 0, 0), (.aload_n 1, 1, 0, 0), (.aload_n 0, 0, 0, 0), (.getfield 31, 0, 6, 0)]) (pc1 := 23) (lo1 := [(0, .ref 113), (1, .ref 105)]) (st1 := [.int (BS 6), .ref 105, .ref 113]) (w1 := (WX pgC pgL stC stL PA PS BA (upd BS 8 (nI (ptsN κ))) u)) (by decide +kernel) rfl ?_
  refine M.callVi (as := [.int (BS 6)]) (st := [.ref 113]) (nx := 26) okX1_there lkX0_73 (x_there (BS 6)) (by decide +kernel) (by decide) rfl (Nat.le_of_ble_eq_true rfl) rfl (by decide) ?_
  refine M.blk (is := [(.putfield 78, 0, 9, 0), (.aload_n 0, 0, 0, 0), (.iconst 0, 0, 0, 0), (.putfield 80, 0, 10, 0), (.aload_n 0, 0, 0, 0), (.iconst 0, 0, 0, 0), (.putfield 83, 0, 11, 0), (.aload_n 0, 0, 0, 0), (.iconst 0, 0, 0, 0), (.putfield 86, 0, 12, 0), (.iconst 0, 0, 0, 0), (.istore_n 2, 2, 0, 0)]) (pc1 := 46) (lo1 := [(2, .int 0), (0, .ref 113), (1, .ref 105)]) (st1 := []) (w1 := (WX pgC pgL stC stL PA PS BA (upd (upd (upd (upd (upd BS 8 (nI (ptsN κ))) 9 (thF PA PS (BS 6))) 10 0) 11 0) 12 0) u)) (by decide +kernel) rfl ?_
  refine M.lsub [1, 2, 0] (lo1 := [(0, .ref 113), (1, .ref 105), (2, .int 0)]) rfl ?_
  exact lp1 (ptsN κ) 0 BA (by omega) (fun p hp => absurd hp (Nat.not_lt_zero _))
def smT (PA : Nat → Nat → Int32) (PS : Nat → Int32) (x : Int32) : Nat → Int32 := fun d => if d < 4 then tyF PA PS (beF PA PS x (nI d)) else tyF PA PS x
/-- one FAULT's course: pattern, should, sights, bit, misses, first step, first read -/
def smS (κ p : Nat) (τ C : Nat → Int32) (j : Nat) : Nat × Nat × Int32 × Int32 × Int32 × Int32 × Int32 := match j with
  | 0 => (0, 0, 0, hlP κ 0 p 0, 0, 0, 0)
  | j + 1 => if C j = 114 then
      ((smS κ p τ C j).1, (smS κ p τ C j).2.1, (smS κ p τ C j).2.2.1 ||| (1 <<< ((16 * nI (smS κ p τ C j).2.1 + nI (smS κ p τ C j).1) &&& 31)), (smS κ p τ C j).2.2.2.1,
        (if (smS κ p τ C j).2.2.2.1 = nI (smS κ p τ C j).2.1 then (smS κ p τ C j).2.2.2.2.1 else (smS κ p τ C j).2.2.2.2.1 + 1),
        (if ¬ (smS κ p τ C j).2.2.2.1 = nI (smS κ p τ C j).2.1 ∧ (smS κ p τ C j).2.2.2.2.1 = 0 then nI j else (smS κ p τ C j).2.2.2.2.2.1),
        (if ¬ (smS κ p τ C j).2.2.2.1 = nI (smS κ p τ C j).2.1 ∧ (smS κ p τ C j).2.2.2.2.1 = 0 then (smS κ p τ C j).2.2.2.1 else (smS κ p τ C j).2.2.2.2.2.2))
    else ((wSt κ p τ (C j) ((smS κ p τ C j).1, (smS κ p τ C j).2.1, (smS κ p τ C j).2.2.2.1)).1, (wSt κ p τ (C j) ((smS κ p τ C j).1, (smS κ p τ C j).2.1, (smS κ p τ C j).2.2.2.1)).2.1, (smS κ p τ C j).2.2.1, (wSt κ p τ (C j) ((smS κ p τ C j).1, (smS κ p τ C j).2.1, (smS κ p τ C j).2.2.2.1)).2.2, (smS κ p τ C j).2.2.2.2.1, (smS κ p τ C j).2.2.2.2.2.1, (smS κ p τ C j).2.2.2.2.2.2)
def smZ (κ p : Nat) (τ C : Nat → Int32) (j : Nat) : Nat × Nat × Int32 := ((smS κ p τ C j).1, (smS κ p τ C j).2.1, (smS κ p τ C j).2.2.2.1)
theorem smZ_lt (κ p : Nat) (τ C : Nat → Int32) (j : Nat) : (smZ κ p τ C j).1 < 16 ∧ (smZ κ p τ C j).2.1 < 2 := by
  induction j with
  | zero => exact ⟨show 0 < 16 by decide, show 0 < 2 by decide⟩
  | succ j ih =>
    unfold smZ smS
    split
    · exact ih
    · exact wSt_lt ih
def WI (κ : Nat) (τ C : Nat → Int32) (x th : Int32) (j : Nat) (BA : Nat → Nat → Int32) (BS : Nat → Int32) : Prop := (BS 6 = x ∧ BS 7 = kI κ ∧ BS 8 = nI (ptsN κ) ∧ BS 9 = th) ∧ BR κ (fun p => smZ κ p τ C j) BA BS ∧ (∀ p, BS 12 = (smS κ p τ C j).2.2.1) ∧ (∀ d, d < 5 → BA 4 d = τ d) ∧ ∀ p, p < ptsN κ → BA 1 p = (smS κ p τ C j).2.2.2.2.1 ∧ (¬ (smS κ p τ C j).2.2.2.2.1 = 0 → BA 2 p = (smS κ p τ C j).2.2.2.2.2.1 ∧ BA 3 p = (smS κ p τ C j).2.2.2.2.2.2)
theorem mcr_congr {κ p : Nat} {τ τ2 : Nat → Int32} {s : Int32} {d : Nat} (h : τ d = τ2 d) (z : Nat × Nat × Int32) : mcr κ p τ s d z = mcr κ p τ2 s d z := by unfold mcr; rw [h]
theorem wSt_congr {κ p : Nat} {τ τ2 : Nat → Int32} {s : Int32} (h : ∀ d, d < 5 → τ d = τ2 d) (z : Nat × Nat × Int32) : wSt κ p τ s z = wSt κ p τ2 s z := by
  unfold wSt
  rw [mcr_congr (h 0 (by decide)), mcr_congr (h 3 (by decide)), mcr_congr (h 4 (by decide)), mcr_congr (h 1 (by decide)), mcr_congr (h 2 (by decide))]
theorem WI_write {κ : Nat} {τ C : Nat → Int32} {x th : Int32} {j : Nat} {BA BB : Nat → Nat → Int32} {BS BT : Nat → Int32} (h : WI κ τ C x th j BA BS) (hs : ¬ C j = 114) (hb : BR κ (fun p => wSt κ p (BA 4) (C j) (smZ κ p τ C j)) BB BT) (hf : (∀ k, k ≠ 0 → BB k = BA k) ∧ (∀ i, i ≠ 10 → i ≠ 11 → BT i = BS i)) : WI κ τ C x th (j + 1) BB BT := by
  obtain ⟨⟨a1, a2, a3, a4⟩, hbr, h12, ht, hp⟩ := h
  have e : ∀ p, smS κ p τ C (j + 1) = ((wSt κ p τ (C j) (smZ κ p τ C j)).1, (wSt κ p τ (C j) (smZ κ p τ C j)).2.1, (smS κ p τ C j).2.2.1, (wSt κ p τ (C j) (smZ κ p τ C j)).2.2, (smS κ p τ C j).2.2.2.2.1, (smS κ p τ C j).2.2.2.2.2.1, (smS κ p τ C j).2.2.2.2.2.2) := by
    intro p
    show (if C j = 114 then _ else _) = _
    rw [if_neg hs]
    rfl
  have ez : (fun p => smZ κ p τ C (j + 1)) = fun p => wSt κ p (BA 4) (C j) (smZ κ p τ C j) := by
    funext p
    unfold smZ
    rw [e p, wSt_congr (τ := BA 4) (τ2 := τ) ht]
    rfl
  refine ⟨⟨by rw [hf.2 6 (by decide) (by decide)]; exact a1, by rw [hf.2 7 (by decide) (by decide)]; exact a2, by rw [hf.2 8 (by decide) (by decide)]; exact a3, by rw [hf.2 9 (by decide) (by decide)]; exact a4⟩, by rw [ez]; exact hb, fun p => ?_, fun d hd => by rw [hf.1 4 (by decide)]; exact ht d hd, fun p hp2 => ?_⟩
  · rw [e p, hf.2 12 (by decide) (by decide)]
    exact h12 p
  · rw [e p, hf.1 1 (by decide), hf.1 2 (by decide), hf.1 3 (by decide)]
    exact hp p hp2
theorem WI_read {κ : Nat} {τ C : Nat → Int32} {x th : Int32} {j : Nat} {BA BB : Nat → Nat → Int32} {BS BT : Nat → Int32} (h : WI κ τ C x th j BA BS) (hs : C j = 114) (e0 : BB 0 = BA 0) (e1 : BB 1 = rdM (ptsN κ) (BS 11) (BA 0) (BA 1)) (e2 : BB 2 = rdF (ptsN κ) (BS 11) (nI j) (BA 0) (BA 1) (BA 2)) (e3 : BB 3 = rdR (ptsN κ) (BS 11) (BA 0) (BA 1) (BA 3)) (e4 : BB 4 = BA 4) (f12 : BT 12 = BS 12 ||| (1 <<< ((16 * BS 11 + BS 10) &&& 31))) (hf : ∀ i, i ≠ 12 → BT i = BS i) : WI κ τ C x th (j + 1) BB BT := by
  obtain ⟨⟨a1, a2, a3, a4⟩, hbr, h12, ht, hp⟩ := h
  have e : ∀ p, smS κ p τ C (j + 1) = ((smS κ p τ C j).1, (smS κ p τ C j).2.1, (smS κ p τ C j).2.2.1 ||| (1 <<< ((16 * nI (smS κ p τ C j).2.1 + nI (smS κ p τ C j).1) &&& 31)), (smS κ p τ C j).2.2.2.1,
        (if (smS κ p τ C j).2.2.2.1 = nI (smS κ p τ C j).2.1 then (smS κ p τ C j).2.2.2.2.1 else (smS κ p τ C j).2.2.2.2.1 + 1),
        (if ¬ (smS κ p τ C j).2.2.2.1 = nI (smS κ p τ C j).2.1 ∧ (smS κ p τ C j).2.2.2.2.1 = 0 then nI j else (smS κ p τ C j).2.2.2.2.2.1),
        (if ¬ (smS κ p τ C j).2.2.2.1 = nI (smS κ p τ C j).2.1 ∧ (smS κ p τ C j).2.2.2.2.1 = 0 then (smS κ p τ C j).2.2.2.1 else (smS κ p τ C j).2.2.2.2.2.2)) := by
    intro p
    show (if C j = 114 then _ else _) = _
    rw [if_pos hs]
  have ez : (fun p => smZ κ p τ C (j + 1)) = fun p => smZ κ p τ C j := by
    funext p
    unfold smZ
    rw [e p]
  refine ⟨⟨by rw [hf 6 (by decide)]; exact a1, by rw [hf 7 (by decide)]; exact a2, by rw [hf 8 (by decide)]; exact a3, by rw [hf 9 (by decide)]; exact a4⟩, ?_, fun p => ?_, fun d hd => by rw [e4]; exact ht d hd, fun p hp2 => ?_⟩
  · rw [ez]
    exact ⟨fun p => by rw [hf 10 (by decide), hf 11 (by decide)]; exact hbr.1 p, fun p hp => by rw [e0]; exact hbr.2 p hp⟩
  · rw [e p, f12, h12 p, (hbr.1 p).1, (hbr.1 p).2.2.1]
    rfl
  · have hB := hbr.2 p hp2
    have h11 := (hbr.1 p).2.2.1
    obtain ⟨hm, hfr⟩ := hp p hp2
    dsimp only [smZ] at hB h11
    rw [e p, e1, e2, e3]
    dsimp only
    unfold rdM rdF rdR
    rw [hB, h11, hm]
    generalize smS κ p τ C j = z at *
    by_cases c1 : z.2.2.2.1 = nI z.2.1
    · simp only [c1, not_true_eq_false, false_and, and_false, if_false, if_true]
      exact ⟨trivial, hfr⟩
    · by_cases c2 : z.2.2.2.2.1 = 0
      · simp only [c1, c2, hp2, not_false_eq_true, true_and, and_true, and_self, if_true, if_false]
        exact fun _ => trivial
      · simp only [c1, c2, hp2, not_false_eq_true, true_and, and_true, and_false, and_self, if_true, if_false]
        exact fun _ => hfr c2
def BnR (PA : Nat → Nat → Int32) (PS : Nat → Int32) (C : Nat → Int32) (sl κ : Nat) (x : Int32) (BA : Nat → Nat → Int32) (BS : Nat → Int32) : Prop := WI κ (smT PA PS x) C x (thF PA PS x) sl BA BS
def BnOk (PA : Nat → Nat → Int32) (PS : Nat → Int32) (C : Nat → Int32) (sl : Nat) (BA : Nat → Nat → Int32) (BS : Nat → Int32) : Prop := BS 5 = 0 ∨ ∃ κ, κ ≤ 3 ∧ BnR PA PS C sl κ (BS 6) BA BS
theorem kI_inj {a b : Nat} (ha : a ≤ 3) (hb : b ≤ 3) (h : kI a = kI b) : a = b := by
  have key : ∀ a b : Fin 4, kI a.val = kI b.val → a = b := by decide
  have := key ⟨a, by omega⟩ ⟨b, by omega⟩ h
  exact congrArg Fin.val this
theorem WI_0 {κ : Nat} {τ C : Nat → Int32} {x th : Int32} {BA BB : Nat → Nat → Int32} {BS : Nat → Int32} (h6 : BS 6 = x) (h7 : BS 7 = kI κ) (h8 : BS 8 = nI (ptsN κ)) (h9 : BS 9 = th) (h10 : BS 10 = 0) (h11 : BS 11 = 0) (h12 : BS 12 = 0) (h0 : ∀ p, p < ptsN κ → BB 0 p = 0 ∧ BB 1 p = 0) (ht : ∀ d, d < 5 → BB 4 d = τ d) (e0 : BA 0 = hldF κ 0 (BB 0)) (e1 : ∀ k, k ≠ 0 → BA k = BB k) : WI κ τ C x th 0 BA BS := by
  refine ⟨⟨h6, h7, h8, h9⟩, ⟨fun p => ⟨h10, show 0 < 16 by decide, h11, show 0 < 2 by decide⟩, fun p hp => ?_⟩, fun p => h12, fun d hd => by rw [e1 4 (by decide)]; exact ht d hd, fun p hp => ?_⟩
  · rw [e0]
    show hldF κ 0 (BB 0) p = hlP κ 0 p 0
    unfold hldF hlP
    rw [(h0 p hp).1]
  · rw [e1 1 (by decide)]
    exact ⟨(h0 p hp).2, fun h => absurd rfl h⟩
theorem work_same {PA : Nat → Nat → Int32} {PS C : Nat → Int32} {sl κ : Nat} {x : Int32} {BA : Nat → Nat → Int32} {BS : Nat → Int32} (hκ : κ ≤ 3) (hbn : BnOk PA PS C sl BA BS) (h5 : ¬ BS 5 = 0) (h6 : BS 6 = x) (h7 : BS 7 = kI κ) : BnR PA PS C sl κ x BA BS := by
  rcases hbn with h | ⟨κ2, hk2, h⟩
  · exact absurd h h5
  · have e := kI_inj hk2 hκ (h.1.2.1.symm.trans h7)
    subst e
    rw [h6] at h
    exact h
theorem WI_5 {κ : Nat} {τ C : Nat → Int32} {x th : Int32} {j : Nat} {BA : Nat → Nat → Int32} {BS : Nat → Int32} {v : Int32} (h : WI κ τ C x th j BA BS) : WI κ τ C x th j BA (upd BS 5 v) := h
theorem x_work {sl κ : Nat} (hsl : sl ≤ 64) (hκ : κ ≤ 3) (hbn : BnOk PA PS stC sl BA BS) (x : Int32) : CC 3 mX0_work 0 0 [.ref 113, .ref 105, .ref 103, .int x, .int (kI κ)] (WX pgC pgL stC (nI sl) PA PS BA BS u) (fun r0 w1 => r0 = none ∧ ∃ BB BT, w1 = WX pgC pgL stC (nI sl) PA PS BB BT u ∧ BnR PA PS stC sl κ x BB BT) := by
  refine CC.of okX0_work.1 (Nat.le_of_ble_eq_true rfl) (fun g M => ?_)
  have lp : ∀ m j BB BT, j + m = sl → WI κ (smT PA PS x) stC x (thF PA PS x) j BB BT → g 0 0 48 [(0, .ref 113), (2, .ref 103), (5, .int (nI j))] [] (WX pgC pgL stC (nI sl) PA PS BB BT u) := by
    intro m
    induction m with
    | zero =>
      intro j BB BT hj hw
      have ej : sl = j := by omega
      subst ej
      refine M.blk (is := [(.iload 5, 5, 0, 0), (.aload_n 2, 2, 0, 0), (.getfield 45, 2, 1, 0)]) (pc1 := 54) (lo1 := [(0, .ref 113), (2, .ref 103), (5, .int (nI sl))]) (st1 := [.int (nI sl), .int (nI sl)]) (w1 := (WX pgC pgL stC (nI sl) PA PS BB BT u)) (by decide +kernel) rfl ?_
      refine M.icmp_ge (off := 39) (tgt := 93) (nx := 57) (by decide +kernel) (fun z54 => ?_) (fun z54 => by exfalso; exact z54 (nI_le (Nat.le_refl _) (by omega)))
      refine M.blk (is := [(.aload_n 0, 0, 0, 0), (.iconst 1, 0, 0, 1)]) (pc1 := 95) (lo1 := [(0, .ref 113), (2, .ref 103), (5, .int (nI sl))]) (st1 := [.int 1, .ref 113]) (w1 := (WX pgC pgL stC (nI sl) PA PS BB BT u)) (by decide +kernel) rfl ?_
      refine M.putz (idx := 27) (a := 0) (b := 5) (nx := 98) (by decide +kernel) rfl (Nat.le_of_ble_eq_true rfl) (by decide) ?_
      show g 0 0 98 [(0, .ref 113), (2, .ref 103), (5, .int (nI sl))] [] (WX pgC pgL stC (nI sl) PA PS BB (upd BT 5 1) u)
      exact M.retv (nx := 99) (by decide +kernel) ⟨rfl, BB, upd BT 5 1, rfl, WI_5 hw⟩
    | succ m ih =>
      intro j BB BT hj hw
      refine M.blk (is := [(.iload 5, 5, 0, 0), (.aload_n 2, 2, 0, 0), (.getfield 45, 2, 1, 0)]) (pc1 := 54) (lo1 := [(0, .ref 113), (2, .ref 103), (5, .int (nI j))]) (st1 := [.int (nI sl), .int (nI j)]) (w1 := (WX pgC pgL stC (nI sl) PA PS BB BT u)) (by decide +kernel) rfl ?_
      refine M.icmp_ge (off := 39) (tgt := 93) (nx := 57) (by decide +kernel) (fun z54 => by exfalso; exact nI_ge (show j < sl by omega) (by omega) z54) (fun z54 => ?_)
      refine M.blk (is := [(.aload_n 2, 2, 0, 0), (.iload 5, 5, 0, 0)]) (pc1 := 60) (lo1 := [(0, .ref 113), (2, .ref 103), (5, .int (nI j))]) (st1 := [.int (nI j), .ref 103]) (w1 := (WX pgC pgL stC (nI sl) PA PS BB BT u)) (by decide +kernel) rfl ?_
      refine M.callVi (as := [.int (nI j)]) (st := []) (nx := 63) okX2_get lkX0_50 (x_get3 (nI j)) (by decide +kernel) (by decide) rfl (Nat.le_of_ble_eq_true rfl) rfl (by decide) ?_
      rw [sGet_nI hsl (show j < sl by omega)]
      refine M.blk (is := [(.istore 6, 6, 0, 0), (.iload 6, 6, 0, 0), (.bipush 114, 0, 0, 114)]) (pc1 := 69) (lo1 := [(6, .int (stC j)), (0, .ref 113), (2, .ref 103), (5, .int (nI j))]) (st1 := [.int 114, .int (stC j)]) (w1 := (WX pgC pgL stC (nI sl) PA PS BB BT u)) (by decide +kernel) rfl ?_
      refine M.icmp_ne (off := 12) (tgt := 81) (nx := 72) (by decide +kernel) (fun z69 => ?_) (fun z69 => ?_)
      · refine M.blk (is := [(.aload_n 0, 0, 0, 0), (.iload 6, 6, 0, 0)]) (pc1 := 84) (lo1 := [(6, .int (stC j)), (0, .ref 113), (2, .ref 103), (5, .int (nI j))]) (st1 := [.int (stC j), .ref 113]) (w1 := (WX pgC pgL stC (nI sl) PA PS BB BT u)) (by decide +kernel) rfl ?_
        refine M.callV (as := [.int (stC j)]) (st := []) (nx := 87) okX0_writeAll lkX0_58 (x_writeAll (κ := κ) (z := fun p => smZ κ p (smT PA PS x) stC j) hw.1.2.1 hw.1.2.2.1 hw.2.1 (stC j)) (by decide +kernel) (by decide) rfl (Nat.le_of_ble_eq_true rfl) rfl (by decide) ⟨by decide, by decide⟩ ?_
        intro r0 w1 hq
        obtain ⟨rfl, BC, BV, rfl, hb2, hf2⟩ := hq
        show g 0 0 87 [(6, .int (stC j)), (0, .ref 113), (2, .ref 103), (5, .int (nI j))] [] (WX pgC pgL stC (nI sl) PA PS BC BV u)
        refine M.blk (is := [(.iinc 5 1, 5, 0, 1), (.goto (-42), 48, 0, 0)]) (pc1 := 48) (lo1 := [(5, .int ((nI j) + 1)), (6, .int (stC j)), (0, .ref 113), (2, .ref 103)]) (st1 := []) (w1 := (WX pgC pgL stC (nI sl) PA PS BC BV u)) (by decide +kernel) rfl ?_
        refine M.lsub [2, 3, 0] (lo1 := [(0, .ref 113), (2, .ref 103), (5, .int ((nI j) + 1))]) rfl ?_
        rw [nI_1]
        exact ih (j + 1) BC BV (by omega) (WI_write hw z69 hb2 hf2)
      · refine M.blk (is := [(.aload_n 0, 0, 0, 0), (.iload 5, 5, 0, 0)]) (pc1 := 75) (lo1 := [(6, .int (stC j)), (0, .ref 113), (2, .ref 103), (5, .int (nI j))]) (st1 := [.int (nI j), .ref 113]) (w1 := (WX pgC pgL stC (nI sl) PA PS BB BT u)) (by decide +kernel) rfl ?_
        refine M.callVv (as := [.int (nI j)]) (st := []) (nx := 78) okX0_readAll lkX0_54 (x_readAll (P := ptsN κ) hw.1.2.2.1 (ptsN_le κ) (nI j)) (by decide +kernel) (by decide) rfl (Nat.le_of_ble_eq_true rfl) rfl (by decide) ?_
        show g 0 0 78 [(6, .int (stC j)), (0, .ref 113), (2, .ref 103), (5, .int (nI j))] [] (WX pgC pgL stC (nI sl) PA PS (va_up (va_up (va_up BB 1 (rdM (ptsN κ) (BT 11) (BB 0) (BB 1))) 2 (rdF (ptsN κ) (BT 11) (nI j) (BB 0) (BB 1) (BB 2))) 3 (rdR (ptsN κ) (BT 11) (BB 0) (BB 1) (BB 3))) (upd BT 12 (BT 12 ||| (1 <<< ((16 * BT 11 + BT 10) &&& 31)))) u)
        refine M.blk (is := [(.goto 9, 87, 0, 0), (.iinc 5 1, 5, 0, 1), (.goto (-42), 48, 0, 0)]) (pc1 := 48) (lo1 := [(5, .int ((nI j) + 1)), (6, .int (stC j)), (0, .ref 113), (2, .ref 103)]) (st1 := []) (w1 := (WX pgC pgL stC (nI sl) PA PS (va_up (va_up (va_up BB 1 (rdM (ptsN κ) (BT 11) (BB 0) (BB 1))) 2 (rdF (ptsN κ) (BT 11) (nI j) (BB 0) (BB 1) (BB 2))) 3 (rdR (ptsN κ) (BT 11) (BB 0) (BB 1) (BB 3))) (upd BT 12 (BT 12 ||| (1 <<< ((16 * BT 11 + BT 10) &&& 31)))) u)) (by decide +kernel) rfl ?_
        refine M.lsub [2, 3, 0] (lo1 := [(0, .ref 113), (2, .ref 103), (5, .int ((nI j) + 1))]) rfl ?_
        rw [nI_1]
        exact ih (j + 1) _ _ (by omega) (WI_read hw z69 rfl rfl rfl rfl rfl rfl (fun i hi => pk_un hi))
  show g 0 0 0 [(0, .ref 113), (1, .ref 105), (2, .ref 103), (3, .int x), (4, .int (kI κ))] [] (WX pgC pgL stC (nI sl) PA PS BA BS u)
  refine M.blk (is := [(.aload_n 0, 0, 0, 0), (.getfield 27, 0, 5, 0)]) (pc1 := 4) (lo1 := [(0, .ref 113), (1, .ref 105), (2, .ref 103), (3, .int x), (4, .int (kI κ))]) (st1 := [.int (BS 5)]) (w1 := (WX pgC pgL stC (nI sl) PA PS BA BS u)) (by decide +kernel) rfl ?_
  refine M.if_eq (off := 21) (tgt := 25) (nx := 7) (by decide +kernel) (fun z4 => ?_) (fun z4 => ?_)
  · refine M.blk (is := [(.aload_n 0, 0, 0, 0), (.iload_n 3, 3, 0, 0), (.putfield 31, 0, 6, 0), (.aload_n 0, 0, 0, 0), (.iload 4, 4, 0, 0), (.putfield 35, 0, 7, 0), (.aload_n 0, 0, 0, 0), (.aload_n 1, 1, 0, 0)]) (pc1 := 38) (lo1 := [(0, .ref 113), (1, .ref 105), (2, .ref 103), (3, .int x), (4, .int (kI κ))]) (st1 := [.ref 105, .ref 113]) (w1 := (WX pgC pgL stC (nI sl) PA PS BA (upd (upd BS 6 x) 7 (kI κ)) u)) (by decide +kernel) rfl ?_
    refine M.callV (as := [.ref 105]) (st := []) (nx := 41) okX0_begin lkX0_38 (x_begin (κ := κ) (BS := (upd (upd BS 6 x) 7 (kI κ))) rfl) (by decide +kernel) (by decide) rfl (Nat.le_of_ble_eq_true rfl) rfl (by decide) ⟨by decide, by decide⟩ ?_
    intro r0 w1 hq
    obtain ⟨rfl, BB, rfl, hb0, hb4, hb5⟩ := hq
    show g 0 0 41 [(0, .ref 113), (1, .ref 105), (2, .ref 103), (3, .int x), (4, .int (kI κ))] [] (WX pgC pgL stC (nI sl) PA PS BB (upd (upd (upd (upd (upd (upd (upd BS 6 x) 7 (kI κ)) 8 (nI (ptsN κ))) 9 (thF PA PS x)) 10 0) 11 0) 12 0) u)
    refine M.blk (is := [(.aload_n 0, 0, 0, 0)]) (pc1 := 42) (lo1 := [(0, .ref 113), (1, .ref 105), (2, .ref 103), (3, .int x), (4, .int (kI κ))]) (st1 := [.ref 113]) (w1 := (WX pgC pgL stC (nI sl) PA PS BB (upd (upd (upd (upd (upd (upd (upd BS 6 x) 7 (kI κ)) 8 (nI (ptsN κ))) 9 (thF PA PS x)) 10 0) 11 0) 12 0) u)) (by decide +kernel) rfl ?_
    refine M.callVv (as := []) (st := []) (nx := 45) okX0_hold lkX0_42 (x_hold (κ := κ) (pat := 0) (BS := (upd (upd (upd (upd (upd (upd (upd BS 6 x) 7 (kI κ)) 8 (nI (ptsN κ))) 9 (thF PA PS x)) 10 0) 11 0) 12 0)) rfl rfl rfl (by decide)) (by decide +kernel) (by decide) rfl (Nat.le_of_ble_eq_true rfl) rfl (by decide) ?_
    show g 0 0 45 [(0, .ref 113), (1, .ref 105), (2, .ref 103), (3, .int x), (4, .int (kI κ))] [] (WX pgC pgL stC (nI sl) PA PS (va_up BB 0 (hldF κ 0 (BB 0))) (upd (upd (upd (upd (upd (upd (upd BS 6 x) 7 (kI κ)) 8 (nI (ptsN κ))) 9 (thF PA PS x)) 10 0) 11 0) 12 0) u)
    refine M.blk (is := [(.iconst 0, 0, 0, 0), (.istore 5, 5, 0, 0)]) (pc1 := 48) (lo1 := [(5, .int 0), (0, .ref 113), (1, .ref 105), (2, .ref 103), (3, .int x), (4, .int (kI κ))]) (st1 := []) (w1 := (WX pgC pgL stC (nI sl) PA PS (va_up BB 0 (hldF κ 0 (BB 0))) (upd (upd (upd (upd (upd (upd (upd BS 6 x) 7 (kI κ)) 8 (nI (ptsN κ))) 9 (thF PA PS x)) 10 0) 11 0) 12 0) u)) (by decide +kernel) rfl ?_
    refine M.lsub [1, 3, 0] (lo1 := [(0, .ref 113), (2, .ref 103), (5, .int 0)]) rfl ?_
    exact lp sl 0 _ _ (by omega) (WI_0 (BB := BB) rfl rfl rfl rfl rfl rfl rfl hb0 (fun d hd => by unfold smT; split; exact hb4 d (by assumption); rw [show d = 4 by omega]; exact hb5) rfl (fun k hk => va_upN _ _ hk))
  · refine M.blk (is := [(.aload_n 0, 0, 0, 0), (.getfield 31, 0, 6, 0), (.iload_n 3, 3, 0, 0)]) (pc1 := 12) (lo1 := [(0, .ref 113), (1, .ref 105), (2, .ref 103), (3, .int x), (4, .int (kI κ))]) (st1 := [.int x, .int (BS 6)]) (w1 := (WX pgC pgL stC (nI sl) PA PS BA BS u)) (by decide +kernel) rfl ?_
    refine M.icmp_ne (off := 13) (tgt := 25) (nx := 15) (by decide +kernel) (fun z12 => ?_) (fun z12 => ?_)
    · refine M.blk (is := [(.aload_n 0, 0, 0, 0), (.iload_n 3, 3, 0, 0), (.putfield 31, 0, 6, 0), (.aload_n 0, 0, 0, 0), (.iload 4, 4, 0, 0), (.putfield 35, 0, 7, 0), (.aload_n 0, 0, 0, 0), (.aload_n 1, 1, 0, 0)]) (pc1 := 38) (lo1 := [(0, .ref 113), (1, .ref 105), (2, .ref 103), (3, .int x), (4, .int (kI κ))]) (st1 := [.ref 105, .ref 113]) (w1 := (WX pgC pgL stC (nI sl) PA PS BA (upd (upd BS 6 x) 7 (kI κ)) u)) (by decide +kernel) rfl ?_
      refine M.callV (as := [.ref 105]) (st := []) (nx := 41) okX0_begin lkX0_38 (x_begin (κ := κ) (BS := (upd (upd BS 6 x) 7 (kI κ))) rfl) (by decide +kernel) (by decide) rfl (Nat.le_of_ble_eq_true rfl) rfl (by decide) ⟨by decide, by decide⟩ ?_
      intro r0 w1 hq
      obtain ⟨rfl, BB, rfl, hb0, hb4, hb5⟩ := hq
      show g 0 0 41 [(0, .ref 113), (1, .ref 105), (2, .ref 103), (3, .int x), (4, .int (kI κ))] [] (WX pgC pgL stC (nI sl) PA PS BB (upd (upd (upd (upd (upd (upd (upd BS 6 x) 7 (kI κ)) 8 (nI (ptsN κ))) 9 (thF PA PS x)) 10 0) 11 0) 12 0) u)
      refine M.blk (is := [(.aload_n 0, 0, 0, 0)]) (pc1 := 42) (lo1 := [(0, .ref 113), (1, .ref 105), (2, .ref 103), (3, .int x), (4, .int (kI κ))]) (st1 := [.ref 113]) (w1 := (WX pgC pgL stC (nI sl) PA PS BB (upd (upd (upd (upd (upd (upd (upd BS 6 x) 7 (kI κ)) 8 (nI (ptsN κ))) 9 (thF PA PS x)) 10 0) 11 0) 12 0) u)) (by decide +kernel) rfl ?_
      refine M.callVv (as := []) (st := []) (nx := 45) okX0_hold lkX0_42 (x_hold (κ := κ) (pat := 0) (BS := (upd (upd (upd (upd (upd (upd (upd BS 6 x) 7 (kI κ)) 8 (nI (ptsN κ))) 9 (thF PA PS x)) 10 0) 11 0) 12 0)) rfl rfl rfl (by decide)) (by decide +kernel) (by decide) rfl (Nat.le_of_ble_eq_true rfl) rfl (by decide) ?_
      show g 0 0 45 [(0, .ref 113), (1, .ref 105), (2, .ref 103), (3, .int x), (4, .int (kI κ))] [] (WX pgC pgL stC (nI sl) PA PS (va_up BB 0 (hldF κ 0 (BB 0))) (upd (upd (upd (upd (upd (upd (upd BS 6 x) 7 (kI κ)) 8 (nI (ptsN κ))) 9 (thF PA PS x)) 10 0) 11 0) 12 0) u)
      refine M.blk (is := [(.iconst 0, 0, 0, 0), (.istore 5, 5, 0, 0)]) (pc1 := 48) (lo1 := [(5, .int 0), (0, .ref 113), (1, .ref 105), (2, .ref 103), (3, .int x), (4, .int (kI κ))]) (st1 := []) (w1 := (WX pgC pgL stC (nI sl) PA PS (va_up BB 0 (hldF κ 0 (BB 0))) (upd (upd (upd (upd (upd (upd (upd BS 6 x) 7 (kI κ)) 8 (nI (ptsN κ))) 9 (thF PA PS x)) 10 0) 11 0) 12 0) u)) (by decide +kernel) rfl ?_
      refine M.lsub [1, 3, 0] (lo1 := [(0, .ref 113), (2, .ref 103), (5, .int 0)]) rfl ?_
      exact lp sl 0 _ _ (by omega) (WI_0 (BB := BB) rfl rfl rfl rfl rfl rfl rfl hb0 (fun d hd => by unfold smT; split; exact hb4 d (by assumption); rw [show d = 4 by omega]; exact hb5) rfl (fun k hk => va_upN _ _ hk))
    · refine M.blk (is := [(.aload_n 0, 0, 0, 0), (.getfield 35, 0, 7, 0), (.iload 4, 4, 0, 0)]) (pc1 := 21) (lo1 := [(0, .ref 113), (1, .ref 105), (2, .ref 103), (3, .int x), (4, .int (kI κ))]) (st1 := [.int (kI κ), .int (BS 7)]) (w1 := (WX pgC pgL stC (nI sl) PA PS BA BS u)) (by decide +kernel) rfl ?_
      refine M.icmp_ne (off := 4) (tgt := 25) (nx := 24) (by decide +kernel) (fun z21 => ?_) (fun z21 => ?_)
      · refine M.blk (is := [(.aload_n 0, 0, 0, 0), (.iload_n 3, 3, 0, 0), (.putfield 31, 0, 6, 0), (.aload_n 0, 0, 0, 0), (.iload 4, 4, 0, 0), (.putfield 35, 0, 7, 0), (.aload_n 0, 0, 0, 0), (.aload_n 1, 1, 0, 0)]) (pc1 := 38) (lo1 := [(0, .ref 113), (1, .ref 105), (2, .ref 103), (3, .int x), (4, .int (kI κ))]) (st1 := [.ref 105, .ref 113]) (w1 := (WX pgC pgL stC (nI sl) PA PS BA (upd (upd BS 6 x) 7 (kI κ)) u)) (by decide +kernel) rfl ?_
        refine M.callV (as := [.ref 105]) (st := []) (nx := 41) okX0_begin lkX0_38 (x_begin (κ := κ) (BS := (upd (upd BS 6 x) 7 (kI κ))) rfl) (by decide +kernel) (by decide) rfl (Nat.le_of_ble_eq_true rfl) rfl (by decide) ⟨by decide, by decide⟩ ?_
        intro r0 w1 hq
        obtain ⟨rfl, BB, rfl, hb0, hb4, hb5⟩ := hq
        show g 0 0 41 [(0, .ref 113), (1, .ref 105), (2, .ref 103), (3, .int x), (4, .int (kI κ))] [] (WX pgC pgL stC (nI sl) PA PS BB (upd (upd (upd (upd (upd (upd (upd BS 6 x) 7 (kI κ)) 8 (nI (ptsN κ))) 9 (thF PA PS x)) 10 0) 11 0) 12 0) u)
        refine M.blk (is := [(.aload_n 0, 0, 0, 0)]) (pc1 := 42) (lo1 := [(0, .ref 113), (1, .ref 105), (2, .ref 103), (3, .int x), (4, .int (kI κ))]) (st1 := [.ref 113]) (w1 := (WX pgC pgL stC (nI sl) PA PS BB (upd (upd (upd (upd (upd (upd (upd BS 6 x) 7 (kI κ)) 8 (nI (ptsN κ))) 9 (thF PA PS x)) 10 0) 11 0) 12 0) u)) (by decide +kernel) rfl ?_
        refine M.callVv (as := []) (st := []) (nx := 45) okX0_hold lkX0_42 (x_hold (κ := κ) (pat := 0) (BS := (upd (upd (upd (upd (upd (upd (upd BS 6 x) 7 (kI κ)) 8 (nI (ptsN κ))) 9 (thF PA PS x)) 10 0) 11 0) 12 0)) rfl rfl rfl (by decide)) (by decide +kernel) (by decide) rfl (Nat.le_of_ble_eq_true rfl) rfl (by decide) ?_
        show g 0 0 45 [(0, .ref 113), (1, .ref 105), (2, .ref 103), (3, .int x), (4, .int (kI κ))] [] (WX pgC pgL stC (nI sl) PA PS (va_up BB 0 (hldF κ 0 (BB 0))) (upd (upd (upd (upd (upd (upd (upd BS 6 x) 7 (kI κ)) 8 (nI (ptsN κ))) 9 (thF PA PS x)) 10 0) 11 0) 12 0) u)
        refine M.blk (is := [(.iconst 0, 0, 0, 0), (.istore 5, 5, 0, 0)]) (pc1 := 48) (lo1 := [(5, .int 0), (0, .ref 113), (1, .ref 105), (2, .ref 103), (3, .int x), (4, .int (kI κ))]) (st1 := []) (w1 := (WX pgC pgL stC (nI sl) PA PS (va_up BB 0 (hldF κ 0 (BB 0))) (upd (upd (upd (upd (upd (upd (upd BS 6 x) 7 (kI κ)) 8 (nI (ptsN κ))) 9 (thF PA PS x)) 10 0) 11 0) 12 0) u)) (by decide +kernel) rfl ?_
        refine M.lsub [1, 3, 0] (lo1 := [(0, .ref 113), (2, .ref 103), (5, .int 0)]) rfl ?_
        exact lp sl 0 _ _ (by omega) (WI_0 (BB := BB) rfl rfl rfl rfl rfl rfl rfl hb0 (fun d hd => by unfold smT; split; exact hb4 d (by assumption); rw [show d = 4 by omega]; exact hb5) rfl (fun k hk => va_upN _ _ hk))
      · exact M.retv (nx := 25) (by decide +kernel) ⟨rfl, BA, BS, rfl, work_same hκ hbn z4 z12 z21⟩
end WORK
