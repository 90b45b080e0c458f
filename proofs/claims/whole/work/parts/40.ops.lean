section OPS
variable {pl sl r c f h t : Nat} {pgC stC : Nat → Int32} {PA : Nat → Nat → Int32} {PS : Nat → Int32} {BA : Nat → Nat → Int32} {BS : Nat → Int32} {MA : Nat → Nat → Int32} {MS : Nat → Int32} {Mh : Int64}
def XL (pgC : Nat → Int32) (pl : Nat) (stC : Nat → Int32) (sl : Nat) (PA : Nat → Nat → Int32) (PS : Nat → Int32) (BA : Nat → Nat → Int32) (BS : Nat → Int32) : List Cl := (WX pgC (nI pl) stC (nI sl) PA PS BA BS []).2
def JP (d2 : Nat) (mt : Mt) (av : List Value) (r1 : Option Value) (w1 : Wd) : Prop := ∃ (y : Int32) (fs : List Value) (Pm : Option Value → Wd → Prop), r1 = some (.int y) ∧ lkc w1 0 = some (.inl (4, fs)) ∧ CC d2 mt 0 0 (.ref 0 :: av) w1 Pm ∧ ∀ r2 w2, Pm r2 w2 → r2 = some (.int y) ∧ Jt w2
def JQ (d1 d2 : Nat) (mtx mtm : Mt) (av : List Value) (w : Wd) : Prop := ∃ Px : Option Value → Wd → Prop, CC d1 mtx 0 0 (.ref 100 :: av) w Px ∧ ∀ r1 w1, Px r1 w1 → JP d2 mtm av r1 w1
theorem jp {d2 : Nat} {mt : Mt} {av : List Value} {y : Int32} {w1 : Wd} {v : List Cl} {Pm : Option Value → Wd → Prop} (hw : w1 = WM MA MS Mh v) (hC : CC d2 mt 0 0 (.ref 0 :: av) (WM MA MS Mh v) Pm) (hp : ∀ r2 w2, Pm r2 w2 → r2 = some (.int y) ∧ Jt w2) : JP d2 mt av (some (.int y)) w1 := by
  subst hw
  exact ⟨y, _, Pm, rfl, rfl, hC, hp⟩
theorem jt {Mh : Int64} (hJ : JI pl sl r c f h t pgC stC PA PS BA BS MA MS) : Jt (WM MA MS Mh (XL pgC pl stC sl PA PS BA BS)) := ⟨pl, sl, r, c, f, h, t, pgC, stC, PA, PS, BA, BS, MA, MS, Mh, rfl, hJ⟩
theorem j_letter (hJ : JI pl sl r c f h t pgC stC PA PS BA BS MA MS) (x : Int32) : JQ 1 1 mX3_letter mX4_letter [.int x] (JW pl sl pgC stC PA PS BA BS MA MS Mh) := by
  obtain ⟨i1, i2, i3, i4, i5, i6, i7, i8, i9, i10, i11, i12, i13⟩ := id hJ
  refine ⟨_, x_letter i1 x, fun r1 w1 hq => ?_⟩
  rcases hq with ⟨a, rfl, rfl⟩ | ⟨a, b, rfl, rfl⟩ | ⟨a, b, rfl, rfl⟩
  · refine jp (v := XL pgC pl stC sl PA PS BA BS) rfl (m_letter i7 i1 x) (fun r2 w2 hq => ?_)
    rcases hq with ⟨_, rfl, rfl⟩ | ⟨a2, _⟩ | ⟨a2, _⟩
    · exact ⟨rfl, jt hJ⟩
    · exact absurd a a2
    · exact absurd a a2
  · refine jp (v := XL pgC pl stC sl PA PS BA BS) rfl (m_letter i7 i1 x) (fun r2 w2 hq => ?_)
    rcases hq with ⟨a2, _⟩ | ⟨_, _, rfl, rfl⟩ | ⟨_, b2, _⟩
    · exact absurd a2 a
    · exact ⟨rfl, jt hJ⟩
    · omega
  · refine jp (v := XL (upd pgC pl x) (pl + 1) stC sl PA PS BA BS) rfl (m_letter i7 i1 x) (fun r2 w2 hq => ?_)
    rcases hq with ⟨a2, _⟩ | ⟨_, b2, _⟩ | ⟨_, _, rfl, rfl⟩
    · exact absurd a2 a
    · omega
    · refine ⟨rfl, jt ⟨by omega, i2, i3, i4, i5, i6, rfl, i8, i9, fun j hj => ?_, i11, i12, i13⟩⟩
      show upd (MA 1) pl x j = upd pgC pl x j
      by_cases e : j = pl
      · rw [e, pk_us, pk_us]
      · rw [pk_un e, pk_un e, i10 j (by omega)]
theorem j_blank (hJ : JI pl sl r c f h t pgC stC PA PS BA BS MA MS) : JQ 1 0 mX3_blank mX4_blank [] (JW pl sl pgC stC PA PS BA BS MA MS Mh) := by
  obtain ⟨i1, i2, i3, i4, i5, i6, i7, i8, i9, i10, i11, i12, i13⟩ := id hJ
  refine ⟨_, x_blank, fun r1 w1 hq => ?_⟩
  obtain ⟨rfl, rfl⟩ := hq
  refine jp (v := XL pgC 0 stC sl PA PS BA BS) rfl m_blank (fun r2 w2 hq => ?_)
  obtain ⟨rfl, rfl⟩ := hq
  exact ⟨by rw [i7], jt ⟨by omega, i2, i3, i4, i5, i6, rfl, i8, i9, fun j hj => absurd hj (by omega), i11, i12, i13⟩⟩
theorem j_fault (hJ : JI pl sl r c f h t pgC stC PA PS BA BS MA MS) : JQ 2 2 mX3_fault mX4_fault [] (JW pl sl pgC stC PA PS BA BS MA MS Mh) := by
  obtain ⟨i1, i2, i3, i4, i5, i6, i7, i8, i9, i10, i11, i12, i13⟩ := id hJ
  refine ⟨_, x_fault i1, fun r1 w1 hq => ?_⟩
  obtain ⟨rfl, rfl⟩ := hq
  refine jp (v := XL pgC pl stC sl PA PS BA BS) rfl (m_fault i7 i1) (fun r2 w2 hq => ?_)
  obtain ⟨rfl, rfl⟩ := hq
  exact ⟨by rw [flt_congr pl 0 pl (by omega) i10], jt hJ⟩
theorem ca_none {C A B : Nat → Int32} (h25 : r * c ≤ 25) (h0 : ∀ a, a < 75 → A a = 0) : CaOk r c C sl A B := fun k κ hk h3 ha => absurd (h0 (3 * k + κ) (by omega)) ha
theorem j_test (hJ : JI pl sl r c f h t pgC stC PA PS BA BS MA MS) : JQ 3 3 mX3_test mX4_test [] (JW pl sl pgC stC PA PS BA BS MA MS Mh) := by
  obtain ⟨i1, i2, i3, i4, i5, i6, i7, i8, i9, i10, i11, i12, i13⟩ := id hJ
  have h25 : r * c ≤ 25 := Nat.mul_le_mul i3.1.2 i3.2.1.2
  have hf := flt_congr pl 0 pl (by omega) i10
  refine ⟨_, x_test i1, fun r1 w1 hq => ?_⟩
  rcases hq with ⟨a, rfl, rfl⟩ | ⟨a, rfl, D, rfl, hD⟩
  · refine jp (v := XL pgC pl stC sl PA PS BA BS) rfl (m_test i7 i1) (fun r2 w2 hq => ?_)
    rcases hq with ⟨_, rfl, rfl⟩ | ⟨a2, _⟩
    · exact ⟨rfl, jt hJ⟩
    · rw [hf] at a2; exact absurd a a2
  · refine jp (v := XL pgC 0 D pl PA PS BA (upd BS 5 0)) rfl (m_test i7 i1) (fun r2 w2 hq => ?_)
    rcases hq with ⟨a2, _⟩ | ⟨_, rfl, MB, rfl, b1, b2, b3⟩
    · rw [hf] at a2; exact absurd a2 a
    · have hall : flt (MA 1) pl 0 = 0 + pl := by
        rw [hf]
        have := (flt_ge pgC pl 0).2
        omega
      refine ⟨rfl, jt ⟨by omega, by omega, i3, i4, Or.inl rfl, i6, rfl, rfl, i9, fun j hj => absurd hj (by omega), fun j hj => ?_, fun j hj => ?_, ca_none h25 b3⟩⟩
      · rw [b1 j hj, hD j hj, i10 j hj]
      · rw [b1 j hj]
        exact flt_all pl 0 hall j (by omega) (by omega)
theorem gry_sg : ∀ j : Fin 64, sgnB (gry j.val) = true := by decide +kernel
theorem j_gray (hJ : JI pl sl r c f h t pgC stC PA PS BA BS MA MS) : JQ 1 3 mX3_gray mX4_gray [] (JW pl sl pgC stC PA PS BA BS MA MS Mh) := by
  obtain ⟨i1, i2, i3, i4, i5, i6, i7, i8, i9, i10, i11, i12, i13⟩ := id hJ
  have h25 : r * c ≤ 25 := Nat.mul_le_mul i3.1.2 i3.2.1.2
  refine ⟨_, x_gray, fun r1 w1 hq => ?_⟩
  obtain ⟨rfl, D, rfl, hD⟩ := hq
  refine jp (v := XL pgC pl D 64 PA PS BA (upd BS 5 0)) rfl m_gray (fun r2 w2 hq => ?_)
  obtain ⟨rfl, MB, rfl, b1, b2, b3⟩ := hq
  refine ⟨rfl, jt ⟨i1, by omega, i3, i4, Or.inl rfl, i6, i7, rfl, i9, fun j hj => ?_, fun j hj => ?_, fun j hj => ?_, ca_none h25 b3⟩⟩
  · rw [b2 1 (by decide) (by decide)]; exact i10 j hj
  · rw [b1 j hj, hD j hj]
  · rw [b1 j hj]; exact gry_sg ⟨j, hj⟩
theorem j_step (hJ : JI pl sl r c f h t pgC stC PA PS BA BS MA MS) (x : Int32) : JQ 1 1 mX3_step mX4_step [.int x] (JW pl sl pgC stC PA PS BA BS MA MS Mh) := by
  obtain ⟨i1, i2, i3, i4, i5, i6, i7, i8, i9, i10, i11, i12, i13⟩ := id hJ
  refine ⟨_, x_step i2 x, fun r1 w1 hq => ?_⟩
  obtain ⟨rfl, ⟨k, hk, e, rfl⟩ | ⟨hn, rfl⟩⟩ := hq
  · refine jp (v := XL pgC pl stC sl PA PS BA BS) rfl (m_step i8 i2 x) (fun r2 w2 hq => ?_)
    obtain ⟨rfl, ⟨k2, hk2, e2, rfl⟩ | ⟨hn, _⟩⟩ := hq
    · obtain rfl : k = k2 := nI_inj (by omega) (by omega) (e.symm.trans e2)
      exact ⟨by rw [i11 k hk], jt hJ⟩
    · exact absurd e (hn k hk)
  · refine jp (v := XL pgC pl stC sl PA PS BA BS) rfl (m_step i8 i2 x) (fun r2 w2 hq => ?_)
    obtain ⟨rfl, ⟨k2, hk2, e2, rfl⟩ | ⟨_, rfl⟩⟩ := hq
    · exact absurd e2 (hn k2 hk2)
    · exact ⟨rfl, jt hJ⟩
theorem geo_new {r c : Nat} (hr : 3 ≤ r ∧ r ≤ 5) (hc : 3 ≤ c ∧ c ≤ 5) : GeoOk r c 1 0 0 := by
  have h9 : 9 ≤ r * c := Nat.mul_le_mul hr.1 hc.1
  exact ⟨hr, hc, ⟨by omega, by omega⟩, Nat.gcd_one_right _, by omega, Nat.two_pow_pos _⟩
theorem j_sheet (hJ : JI pl sl r c f h t pgC stC PA PS BA BS MA MS) (x y : Int32) : JQ 4 1 mX3_sheet mX4_sheet [.int x, .int y] (JW pl sl pgC stC PA PS BA BS MA MS Mh) := by
  obtain ⟨i1, i2, i3, i4, i5, i6, i7, i8, i9, i10, i11, i12, i13⟩ := id hJ
  refine ⟨_, x_sheet x y, fun r1 w1 hq => ?_⟩
  rcases hq with ⟨a, rfl, rfl⟩ | ⟨r', c', e1, e2, hr, hc, rfl, PB, PT, rfl, hp⟩
  · refine jp (v := XL pgC pl stC sl PA PS BA BS) rfl (m_sheet x y) (fun r2 w2 hq => ?_)
    rcases hq with ⟨_, rfl, rfl⟩ | ⟨r2', c2', e3, e4, hr2, hc2, _⟩
    · exact ⟨rfl, jt hJ⟩
    · exact absurd ⟨r2', c2', e3, e4, hr2, hc2⟩ a
  · refine jp (v := XL pgC pl stC sl PB PT BA (upd BS 5 0)) rfl (m_sheet x y) (fun r2 w2 hq => ?_)
    rcases hq with ⟨a2, _⟩ | ⟨r2', c2', e3, e4, hr2, hc2, rfl, MB, MT, rfl, b1, b2, b3, b4⟩
    · exact absurd ⟨r', c', e1, e2, hr, hc⟩ a2
    · obtain rfl : r' = r2' := nI_inj (by omega) (by omega) (e1.symm.trans e3)
      obtain rfl : c' = c2' := nI_inj (by omega) (by omega) (e2.symm.trans e4)
      refine ⟨rfl, jt ⟨i1, i2, geo_new hr hc, hp, Or.inl rfl, b1, ?_, ?_, ?_, ?_, ?_, ?_, ca_none (Nat.mul_le_mul hr.2 hc.2) b4⟩⟩
      · rw [b2 0 (by omega)]; exact i7
      · rw [b2 2 (by omega)]; exact i8
      · rw [b2 22 (by omega)]; exact i9
      · rw [b3 1 (by decide)]; exact i10
      · rw [b3 3 (by decide)]; exact i11
      · rw [b3 3 (by decide)]; exact i12
theorem bn_move {f' h' t' : Nat} {PB : Nat → Nat → Int32} {PT : Nat → Int32} {C : Nat → Int32} (hg : GeoOk r c f h t) (hp : PlOk r c f h t PA PS) (hp2 : PlOk r c f' h' t' PB PT) (hb : BnOk PA PS C sl BA BS) : BnOk PB PT C sl BA BS := by
  have h25 : r * c ≤ 25 := Nat.mul_le_mul hg.1.2 hg.2.1.2
  rcases hb with hb | ⟨κ, hk, hb⟩
  · exact Or.inl hb
  · refine Or.inr ⟨κ, hk, ?_⟩
    unfold BnR at hb ⊢
    have e : smT PA PS (BS 6) = smT PB PT (BS 6) ∧ thF PA PS (BS 6) = thF PB PT (BS 6) := by
      by_cases hx : ∃ k, k < r * c ∧ BS 6 = nI k
      · obtain ⟨k, hk, e⟩ := hx
        rw [e, pl_tau hp h25 hk, pl_tau hp2 h25 hk, pl_th hp h25 hk, pl_th hp2 h25 hk]
        exact ⟨rfl, rfl⟩
      · have hn : ∀ k, k < r * c → ¬ BS 6 = nI k := fun k hk e => hx ⟨k, hk, e⟩
        have o1 := hasF_out hp h25 hn
        have o2 := hasF_out hp2 h25 hn
        refine ⟨?_, ?_⟩
        · funext d
          unfold smT tyF beF
          rw [o1, o2]
          have m1 : hasF PS (-1) = 0 := if_pos (by decide)
          have m2 : hasF PT (-1) = 0 := if_pos (by decide)
          simp [m1, m2]
        · unfold thF
          rw [o1, o2, if_pos rfl, if_pos rfl]
    rw [← e.1, ← e.2]
    exact hb
theorem j_scramble (hJ : JI pl sl r c f h t pgC stC PA PS BA BS MA MS) (x y z : Int32) : JQ 3 2 mX3_scramble mX4_scramble [.int x, .int y, .int z] (JW pl sl pgC stC PA PS BA BS MA MS Mh) := by
  obtain ⟨i1, i2, i3, i4, i5, i6, i7, i8, i9, i10, i11, i12, i13⟩ := id hJ
  have h25 : r * c ≤ 25 := Nat.mul_le_mul i3.1.2 i3.2.1.2
  have h32 : ∀ t1, t1 < 2 ^ r → t1 < 2147483648 := fun t1 ht => Nat.lt_of_lt_of_le ht (Nat.le_trans (Nat.pow_le_pow_right (by decide) i3.1.2) (by decide))
  refine ⟨_, x_scramble i3 i4 x y z, fun r1 w1 hq => ?_⟩
  rcases hq with ⟨a, rfl, rfl⟩ | ⟨f1, h1, t1, ⟨e1, e2, e3⟩, hg, rfl, PB, PT, rfl, hp⟩
  · refine jp (v := XL pgC pl stC sl PA PS BA BS) rfl (m_scramble i3 i6 x y z) (fun r2 w2 hq => ?_)
    rcases hq with ⟨_, rfl, rfl⟩ | ⟨f1, h1, t1, ⟨e1, e2, e3⟩, hg, _⟩
    · exact ⟨rfl, jt hJ⟩
    · exact absurd ⟨f1, h1, t1, e1, e2, e3, hg.2.2.1.1, hg.2.2.1.2, hg.2.2.2.1, hg.2.2.2.2.1, hg.2.2.2.2.2⟩ a
  · refine jp (v := XL pgC pl stC sl PB PT BA BS) rfl (m_scramble i3 i6 x y z) (fun r2 w2 hq => ?_)
    rcases hq with ⟨a2, _⟩ | ⟨f2, h2, t2, ⟨e4, e5, e6⟩, hg2, rfl, MT, rfl, b1, b2⟩
    · exact absurd ⟨f1, h1, t1, e1, e2, e3, hg.2.2.1.1, hg.2.2.1.2, hg.2.2.2.1, hg.2.2.2.2.1, hg.2.2.2.2.2⟩ a2
    · obtain rfl : f1 = f2 := nI_inj (by have := hg.2.2.1.2; omega) (by have := hg2.2.2.1.2; omega) (e1.symm.trans e4)
      obtain rfl : h1 = h2 := nI_inj (by have := hg.2.2.2.2.1; omega) (by have := hg2.2.2.2.2.1; omega) (e2.symm.trans e5)
      obtain rfl : t1 = t2 := nI_inj (h32 _ hg.2.2.2.2.2) (h32 _ hg2.2.2.2.2.2) (e3.symm.trans e6)
      refine ⟨rfl, jt ⟨i1, i2, hg, hp, bn_move i3 i4 hp i5, b1, ?_, ?_, ?_, i10, i11, i12, i13⟩⟩
      · rw [b2 0 (by omega)]; exact i7
      · rw [b2 2 (by omega)]; exact i8
      · rw [b2 22 (by omega)]; exact i9
theorem j_cell (hJ : JI pl sl r c f h t pgC stC PA PS BA BS MA MS) (x y : Int32) : JQ 2 4 mX3_cell mX4_cell [.int x, .int y] (JW pl sl pgC stC PA PS BA BS MA MS Mh) := by
  obtain ⟨i1, i2, i3, i4, i5, i6, i7, i8, i9, i10, i11, i12, i13⟩ := id hJ
  have h25 : r * c ≤ 25 := Nat.mul_le_mul i3.1.2 i3.2.1.2
  refine ⟨_, x_cell x y, fun r1 w1 hq => ?_⟩
  obtain ⟨rfl, rfl⟩ := hq
  refine jp (v := XL pgC pl stC sl PA PS BA BS) rfl (m_cell i3 i6 x y) (fun r2 w2 hq => ?_)
  obtain ⟨rfl, ⟨hn, rfl⟩ | ⟨k, a, hk, ha, hka, rfl, ⟨hy, rfl⟩ | ⟨hy, rfl⟩⟩⟩ := hq
  · exact ⟨by rw [cellX_out i4 h25 hn], jt hJ⟩
  · exact ⟨by rw [cell_eq i4 h25 hk ha hka hy], jt hJ⟩
  · exact ⟨by rw [cell_no i4 h25 hk hy], jt hJ⟩
theorem j_at (hJ : JI pl sl r c f h t pgC stC PA PS BA BS MA MS) (x : Int32) : JQ 2 2 mX3_at mX4_at [.int x] (JW pl sl pgC stC PA PS BA BS MA MS Mh) := by
  obtain ⟨i1, i2, i3, i4, i5, i6, i7, i8, i9, i10, i11, i12, i13⟩ := id hJ
  have h25 : r * c ≤ 25 := Nat.mul_le_mul i3.1.2 i3.2.1.2
  refine ⟨_, x_at x, fun r1 w1 hq => ?_⟩
  obtain ⟨rfl, rfl⟩ := hq
  refine jp (v := XL pgC pl stC sl PA PS BA BS) rfl (m_at i3 i6 x) (fun r2 w2 hq => ?_)
  obtain ⟨rfl, ⟨hn, rfl⟩ | ⟨k, hk, rfl, rfl⟩⟩ := hq
  · exact ⟨by rw [hasF_out i4 h25 hn, if_pos rfl], jt hJ⟩
  · exact ⟨by rw [hasF_nI i4.1.2.2.1 h25 hk, if_neg (by decide), pl_cl i4 h25 hk], jt hJ⟩
theorem ji_kp {BB : Nat → Nat → Int32} {BT : Nat → Int32} {MB : Nat → Nat → Int32} {MT : Nat → Int32} (hJ : JI pl sl r c f h t pgC stC PA PS BA BS MA MS) (hb : BnOk PA PS stC sl BB BT) (hK : KP MS MT) (h1 : MB 1 = MA 1) (h3 : MB 3 = MA 3) (hC : CaOk r c (MA 3) sl (MB 24) (MB 25)) : JI pl sl r c f h t pgC stC PA PS BB BT MB MT := by
  obtain ⟨i1, i2, i3, i4, i5, i6, i7, i8, i9, i10, i11, i12, i13⟩ := hJ
  refine ⟨i1, i2, i3, i4, hb, kp_ms hK i6, ?_, ?_, ?_, ?_, ?_, ?_, ?_⟩
  · rw [hK 0 (by omega)]; exact i7
  · rw [hK 2 (by omega)]; exact i8
  · rw [hK 22 (by omega)]; exact i9
  · rw [h1]; exact i10
  · rw [h3]; exact i11
  · rw [h3]; exact i12
  · rw [h3]; exact hC
theorem j_run (hJ : JI pl sl r c f h t pgC stC PA PS BA BS MA MS) (x y : Int32) : JQ 4 8 mX3_run mX4_run [.int x, .int y] (JW pl sl pgC stC PA PS BA BS MA MS Mh) := by
  obtain ⟨i1, i2, i3, i4, i5, i6, i7, i8, i9, i10, i11, i12, i13⟩ := id hJ
  have h25 : r * c ≤ 25 := Nat.mul_le_mul i3.1.2 i3.2.1.2
  have hh : ∀ i, i < sl → stC i = MA 3 i := fun i hi => (i11 i hi).symm
  by_cases hx1 : x = -1
  · subst hx1
    refine ⟨_, x_run_none i2 y, fun r1 w1 hq => ?_⟩
    obtain ⟨rfl, ⟨a, rfl⟩ | ⟨a, rfl⟩⟩ := hq
    · refine jp (v := XL pgC pl stC sl PA PS BA BS) rfl (m_run_none i3 i6 i2 i8 i12 i9 y) (fun r2 w2 hq => ?_)
      obtain ⟨⟨MT, rfl, hK⟩, ⟨_, rfl⟩ | ⟨a2, _⟩⟩ := hq
      · exact ⟨rfl, jt (ji_kp hJ i5 hK rfl rfl i13)⟩
      · exact absurd a a2
    · refine jp (v := XL pgC pl stC sl PA PS BA BS) rfl (m_run_none i3 i6 i2 i8 i12 i9 y) (fun r2 w2 hq => ?_)
      obtain ⟨⟨MT, rfl, hK⟩, ⟨a2, _⟩ | ⟨_, rfl⟩⟩ := hq
      · exact absurd a2 a
      · exact ⟨by rw [lbA_lbN i3 i4, lb_cg hh], jt (ji_kp hJ i5 hK rfl rfl i13)⟩
  · by_cases hx : x < 0
    · refine ⟨_, x_run_neg hx hx1 y, fun r1 w1 hq => ?_⟩
      obtain ⟨rfl, rfl⟩ := hq
      refine jp (v := XL pgC pl stC sl PA PS BA BS) rfl (m_run_neg hx hx1 y) (fun r2 w2 hq => ?_)
      obtain ⟨⟨MT, rfl, hK⟩, rfl⟩ := hq
      exact ⟨rfl, jt (ji_kp hJ i5 hK rfl rfl i13)⟩
    · obtain ⟨N, hN, rfl⟩ := nI_of hx
      have hN2 : N < 2147483648 := by omega
      have ha : fltN r c N = true → adN r c f h (N / 1000) < r * c ∧ (f * adN r c f h (N / 1000) + h) % (r * c) = N / 1000 := by
        intro hf
        unfold fltN at hf
        rw [Bool.and_eq_true] at hf
        exact adN_ok i3 (of_decide_eq_true hf.1)
      refine ⟨_, x_run_num i2 i3 i4 i5 hN2 y, fun r1 w1 hq => ?_⟩
      rcases hq with ⟨a, rfl, rfl⟩ | ⟨a, b, rfl, rfl⟩ | ⟨a, b, rfl, BB, BT, rfl, hB⟩
      · refine jp (v := XL pgC pl stC sl PA PS BA BS) rfl (m_run_num i3 i6 i2 i8 i12 i9 hN2 ha y) (fun r2 w2 hq => ?_)
        obtain ⟨⟨MT, rfl, hK⟩, ⟨_, rfl⟩ | ⟨a2, _⟩ | ⟨a2, _⟩⟩ := hq
        · exact ⟨rfl, jt (ji_kp hJ i5 hK rfl rfl i13)⟩
        · rw [a] at a2; cases a2
        · rw [a] at a2; cases a2
      · refine jp (v := XL pgC pl stC sl PA PS BA BS) rfl (m_run_num i3 i6 i2 i8 i12 i9 hN2 ha y) (fun r2 w2 hq => ?_)
        obtain ⟨⟨MT, rfl, hK⟩, ⟨a2, _⟩ | ⟨_, _, rfl⟩ | ⟨_, b2, _⟩⟩ := hq
        · rw [a] at a2; cases a2
        · exact ⟨rfl, jt (ji_kp hJ i5 hK rfl rfl i13)⟩
        · exact absurd b b2
      · refine jp (v := XL pgC pl stC sl PA PS BB BT) rfl (m_run_num i3 i6 i2 i8 i12 i9 hN2 ha y) (fun r2 w2 hq => ?_)
        obtain ⟨⟨MT, rfl, hK⟩, ⟨a2, _⟩ | ⟨_, b2, _⟩ | ⟨_, _, rfl⟩⟩ := hq
        · rw [a] at a2; cases a2
        · exact absurd b2 b
        · have hk : N / 1000 < r * c := by
            rw [fltN, Bool.and_eq_true] at a
            exact of_decide_eq_true a.1
          refine ⟨?_, jt (ji_kp hJ hB hK rfl rfl i13)⟩
          rw [sm_cg hh, lbA_lbN i3 i4, lb_cg hh, pl_ad i4 h25 (ha a).1 (ha a).2, pl_tu i4 h25 hk]
theorem j_found (hJ : JI pl sl r c f h t pgC stC PA PS BA BS MA MS) (x z y : Int32) : JQ 4 9 mX3_found mX4_found [.int x, .int z, .int y] (JW pl sl pgC stC PA PS BA BS MA MS Mh) := by
  obtain ⟨i1, i2, i3, i4, i5, i6, i7, i8, i9, i10, i11, i12, i13⟩ := id hJ
  have h25 : r * c ≤ 25 := Nat.mul_le_mul i3.1.2 i3.2.1.2
  have hh : ∀ i, i < sl → stC i = MA 3 i := fun i hi => (i11 i hi).symm
  refine ⟨_, x_found i2 i3 i4 i5 x z y, fun r1 w1 hq => ?_⟩
  rcases hq with ⟨a, rfl, rfl⟩ | ⟨k, κ, hk, h3, e1, e2, a, rfl, rfl⟩ | ⟨k, κ, hk, h3, e1, e2, a, rfl, BB, BT, rfl, hB⟩
  · refine jp (v := XL pgC pl stC sl PA PS BA BS) rfl (m_found i3 i6 i2 i8 i12 i9 i13 x z y) (fun r2 w2 hq => ?_)
    obtain ⟨⟨A, B, MT, rfl, hK, hCa⟩, ⟨_, rfl⟩ | ⟨k, κ, hk, h3, e1, e2, _⟩ | ⟨k, κ, hk, h3, e1, e2, _⟩⟩ := hq
    · exact ⟨rfl, jt (ji_kp hJ i5 hK rfl rfl hCa)⟩
    · exact absurd ⟨e1, e2⟩ (a k κ hk h3)
    · exact absurd ⟨e1, e2⟩ (a k κ hk h3)
  · refine jp (v := XL pgC pl stC sl PA PS BA BS) rfl (m_found i3 i6 i2 i8 i12 i9 i13 x z y) (fun r2 w2 hq => ?_)
    obtain ⟨⟨A, B, MT, rfl, hK, hCa⟩, ⟨a2, _⟩ | ⟨k2, κ2, hk2, h32, e3, e4, _, rfl⟩ | ⟨k2, κ2, hk2, h32, e3, e4, a2, _⟩⟩ := hq
    · exact absurd ⟨e1, e2⟩ (a2 k κ hk h3)
    · exact ⟨rfl, jt (ji_kp hJ i5 hK rfl rfl hCa)⟩
    · exact absurd a a2
  · refine jp (v := XL pgC pl stC sl PA PS BB BT) rfl (m_found i3 i6 i2 i8 i12 i9 i13 x z y) (fun r2 w2 hq => ?_)
    obtain ⟨⟨A, B, MT, rfl, hK, hCa⟩, ⟨a2, _⟩ | ⟨k2, κ2, hk2, h32, e3, e4, a2, _⟩ | ⟨k2, κ2, hk2, h32, e3, e4, _, rfl⟩⟩ := hq
    · exact absurd ⟨e1, e2⟩ (a2 k κ hk h3)
    · exact absurd a2 a
    · obtain rfl : k = k2 := nI_inj (by omega) (by omega) (e1.symm.trans e3)
      obtain rfl : κ = κ2 := nI_inj (by omega) (by omega) (e2.symm.trans e4)
      exact ⟨by rw [fd_cg hh], jt (ji_kp hJ hB hK rfl rfl hCa)⟩
theorem j_seen (hJ : JI pl sl r c f h t pgC stC PA PS BA BS MA MS) (x : Int32) : JQ 4 8 mX3_seen mX4_seen [.int x] (JW pl sl pgC stC PA PS BA BS MA MS Mh) := by
  obtain ⟨i1, i2, i3, i4, i5, i6, i7, i8, i9, i10, i11, i12, i13⟩ := id hJ
  have h25 : r * c ≤ 25 := Nat.mul_le_mul i3.1.2 i3.2.1.2
  have hh : ∀ i, i < sl → stC i = MA 3 i := fun i hi => (i11 i hi).symm
  refine ⟨_, x_seen i2 i3 i4 i5 x, fun r1 w1 hq => ?_⟩
  rcases hq with ⟨a, rfl, rfl⟩ | ⟨k, hk, e1, rfl, BB, BT, rfl, hB⟩
  · refine jp (v := XL pgC pl stC sl PA PS BA BS) rfl (m_seen i3 i6 i2 i8 i12 i9 x) (fun r2 w2 hq => ?_)
    obtain ⟨⟨A, MT, rfl, hK⟩, ⟨_, rfl⟩ | ⟨k, hk, e1, _⟩⟩ := hq
    · exact ⟨rfl, jt (ji_kp hJ i5 hK rfl rfl i13)⟩
    · exact absurd e1 (a k hk)
  · refine jp (v := XL pgC pl stC sl PA PS BB BT) rfl (m_seen i3 i6 i2 i8 i12 i9 x) (fun r2 w2 hq => ?_)
    obtain ⟨⟨A, MT, rfl, hK⟩, ⟨a2, _⟩ | ⟨k2, hk2, e2, rfl⟩⟩ := hq
    · exact absurd e1 (a2 k hk)
    · obtain rfl : k = k2 := nI_inj (by omega) (by omega) (e1.symm.trans e2)
      exact ⟨by rw [sm_cg hh], jt (ji_kp hJ hB hK rfl rfl i13)⟩
theorem j_count (hJ : JI pl sl r c f h t pgC stC PA PS BA BS MA MS) (y : Int32) : JQ 5 10 mX3_count mX4_count [.int y] (JW pl sl pgC stC PA PS BA BS MA MS Mh) := by
  obtain ⟨i1, i2, i3, i4, i5, i6, i7, i8, i9, i10, i11, i12, i13⟩ := id hJ
  have hh : ∀ i, i < sl → stC i = MA 3 i := fun i hi => (i11 i hi).symm
  refine ⟨_, x_count i2 i3 i4 i5 y, fun r1 w1 hq => ?_⟩
  obtain ⟨rfl, BB, BT, rfl, hB⟩ := hq
  refine jp (v := XL pgC pl stC sl PA PS BB BT) rfl (m_count i3 i6 i2 i8 i12 i7 i9 y) (fun r2 w2 hq => ?_)
  obtain ⟨A, MT, rfl, hK, rfl⟩ := hq
  exact ⟨by rw [cnt_cg hh], jt (ji_kp hJ hB hK rfl rfl i13)⟩
def JPl (d2 : Nat) (mt : Mt) (r1 : Option Value) (w1 : Wd) : Prop := ∃ (y : Int64) (fs : List Value) (Pm : Option Value → Wd → Prop), r1 = some (.long y) ∧ lkc w1 0 = some (.inl (4, fs)) ∧ CC d2 mt 0 0 [.ref 0] w1 Pm ∧ ∀ r2 w2, Pm r2 w2 → r2 = some (.long y) ∧ Jt w2
theorem jpl {d2 : Nat} {mt : Mt} {y : Int64} {w1 : Wd} {v : List Cl} {Pm : Option Value → Wd → Prop} (hw : w1 = WM MA MS Mh v) (hC : CC d2 mt 0 0 [.ref 0] (WM MA MS Mh v) Pm) (hp : ∀ r2 w2, Pm r2 w2 → r2 = some (.long y) ∧ Jt w2) : JPl d2 mt (some (.long y)) w1 := by
  subst hw
  exact ⟨y, _, Pm, rfl, rfl, hC, hp⟩
theorem j_digest (hJ : JI pl sl r c f h t pgC stC PA PS BA BS MA MS) : ∃ Px : Option Value → Wd → Prop, CC 6 mX3_digest 0 0 [.ref 100] (JW pl sl pgC stC PA PS BA BS MA MS Mh) Px ∧ ∀ r1 w1, Px r1 w1 → JPl 11 mX4_digest r1 w1 := by
  obtain ⟨i1, i2, i3, i4, i5, i6, i7, i8, i9, i10, i11, i12, i13⟩ := id hJ
  have hh : ∀ i, i < sl → stC i = MA 3 i := fun i hi => (i11 i hi).symm
  have hG : ∀ i, i < pl → pgC i = MA 1 i := fun i hi => (i10 i hi).symm
  refine ⟨_, x_digest i2 i1 i3 i4 i5, fun r1 w1 hq => ?_⟩
  obtain ⟨rfl, BB, BT, rfl, hB⟩ := hq
  refine jpl (v := XL pgC pl stC sl PA PS BB BT) rfl (m_digest i3 i6 i2 i8 i12 i7 i1 i9 i13) (fun r2 w2 hq => ?_)
  obtain ⟨S, A, B, MT, X, rfl, hK, hCa, rfl⟩ := hq
  exact ⟨by rw [dig_eq i3 i4 hh hG], jt (ji_kp hJ hB hK rfl rfl hCa)⟩
end OPS
