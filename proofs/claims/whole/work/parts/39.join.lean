section JOIN
variable {r c f h t : Nat} {PA : Nat → Nat → Int32} {PS : Nat → Int32} {C C' : Nat → Int32} {sl : Nat}
theorem sm_cg {κ p : Nat} {τ : Nat → Int32} : ∀ {j : Nat}, (∀ i, i < j → C i = C' i) → smS κ p τ C j = smS κ p τ C' j
  | 0, _ => rfl
  | j + 1, hh => by
    have ih := sm_cg (κ := κ) (p := p) (τ := τ) (j := j) (fun i hi => hh i (by omega))
    have e := hh j (by omega)
    unfold smS
    rw [ih, e]
theorem op_cg : ∀ {j : Nat}, (∀ i, i < j → C i = C' i) → opN r c C j = opN r c C' j
  | 0, _ => rfl
  | j + 1, hh => by
    have ih := op_cg (j := j) (fun i hi => hh i (by omega))
    unfold opN
    rw [ih, hh j (by omega)]
theorem lb_cg : ∀ {j : Nat}, (∀ i, i < j → C i = C' i) → lbN r c C j = lbN r c C' j
  | 0, _ => rfl
  | j + 1, hh => by
    have ih := lb_cg (j := j) (fun i hi => hh i (by omega))
    unfold lbN
    rw [ih, hh j (by omega)]
theorem fd_cg {k κ : Nat} {y : Int32} (hh : ∀ i, i < sl → C i = C' i) : fdF r c C sl k κ y = fdF r c C' sl k κ y := by
  have e1 : smM κ (tauG r c k) C sl = smM κ (tauG r c k) C' sl := funext (fun p => by unfold smM; rw [sm_cg hh])
  have e2 : smF κ (tauG r c k) C sl = smF κ (tauG r c k) C' sl := funext (fun p => by unfold smF; rw [sm_cg hh])
  unfold fdF
  rw [e1, e2]
theorem wh_cg (hh : ∀ i, i < sl → C i = C' i) : ∀ m, whC r c C sl m = whC r c C' sl m
  | 0 => rfl
  | m + 1 => by
    have ih := wh_cg hh m
    unfold whC
    rw [ih, sm_cg hh]
theorem cnt_cg {pl : Nat} {y : Int32} (hh : ∀ i, i < sl → C i = C' i) : cntF pl sl r c f h t C y = cntF pl sl r c f h t C' y := by
  unfold cntF
  rw [op_cg hh, wh_cg hh]
theorem jf_cg {x : Int64} {k κ : Nat} (hh : ∀ i, i < sl → C i = C' i) : jfF r c C sl x k κ = jfF r c C' sl x k κ := by
  unfold jfF
  rw [fd_cg hh, fd_cg hh, fd_cg hh, fd_cg hh]
theorem dE_cg {pl : Nat} {x : Int64} (hh : ∀ i, i < sl → C i = C' i) : dgE pl sl r c f h t C x = dgE pl sl r c f h t C' x := by
  unfold dgE
  simp only [cnt_cg (r := r) (c := c) (f := f) (h := h) (t := t) (pl := pl) hh]
theorem dD_cg {x : Int64} {G G' : Nat → Int32} : ∀ {j : Nat}, (∀ i, i < j → G i = G' i) → dgD G x j = dgD G' x j
  | 0, _ => rfl
  | j + 1, hh => by
    have ih := dD_cg (x := x) (j := j) (fun i hi => hh i (by omega))
    unfold dgD
    rw [ih, hh j (by omega)]
theorem pl_tu {k : Nat} (hp : PlOk r c f h t PA PS) (h25 : r * c ≤ 25) (hk : k < r * c) : tuF PA PS (nI k) = (nI t >>> (nI (k / c) &&& 31)) &&& 1 := by
  unfold tuF
  rw [hasF_nI hp.1.2.2.1 h25 hk, if_neg (by decide), nI_clamp (by omega), (hp.2.1.1 k hk).2.1, hp.1.2.2.2.2.2]
theorem cell_eq {k a : Nat} (hp : PlOk r c f h t PA PS) (h25 : r * c ≤ 25) (hk : k < r * c) (ha : a < r * c) (hka : (f * a + h) % (r * c) = k) {y : Int32} (hy : yOk y) : cellX PA PS (nI k) y = cgF r c t k a y := by
  unfold cellX cgF
  rw [hasF_nI hp.1.2.2.1 h25 hk, if_neg (by decide), pl_ty hp h25 hk, pl_ad hp h25 ha hka, pl_tu hp h25 hk]
  rcases hy with rfl | rfl | rfl | ⟨d, hd, rfl⟩
  · rfl
  · rfl
  · rfl
  · rw [(y10 hd).2, (y10 hd).1, pl_be hp h25 hk hd]
    rcases (show d = 0 ∨ d = 1 ∨ d = 2 ∨ d = 3 by omega) with rfl | rfl | rfl | rfl <;> rfl
theorem cell_no {k : Nat} (hp : PlOk r c f h t PA PS) (h25 : r * c ≤ 25) (hk : k < r * c) {y : Int32} (hy : ¬ yOk y) : cellX PA PS (nI k) y = -1002 := by
  unfold cellX
  rw [hasF_nI hp.1.2.2.1 h25 hk, if_neg (by decide), if_neg (fun e => hy (Or.inl e)), if_neg (fun e => hy (Or.inr (Or.inl e))), if_neg (fun e => hy (Or.inr (Or.inr (Or.inl e)))), if_neg]
  rintro (e | e | e | e)
  · exact hy (Or.inr (Or.inr (Or.inr ⟨0, by decide, e⟩)))
  · exact hy (Or.inr (Or.inr (Or.inr ⟨1, by decide, e⟩)))
  · exact hy (Or.inr (Or.inr (Or.inr ⟨2, by decide, e⟩)))
  · exact hy (Or.inr (Or.inr (Or.inr ⟨3, by decide, e⟩)))
theorem hasF_out (hp : PlOk r c f h t PA PS) (h25 : r * c ≤ 25) {x : Int32} (hx : ∀ k, k < r * c → ¬ x = nI k) : hasF PS x = 0 := by
  unfold hasF
  by_cases h1 : x < 0
  · rw [if_pos h1]
  · rw [if_neg h1]
    obtain ⟨j, hj, rfl⟩ := nI_of h1
    rw [hp.1.2.2.1]
    by_cases h2 : nI (r * c) ≤ nI j
    · rw [if_pos h2]
    · refine absurd rfl (hx j ?_)
      rcases Nat.lt_or_ge j (r * c) with h3 | h3
      · exact h3
      · exact absurd (nI_le h3 (by omega)) h2
theorem cellX_out (hp : PlOk r c f h t PA PS) (h25 : r * c ≤ 25) {x y : Int32} (hx : ∀ k, k < r * c → ¬ x = nI k) : cellX PA PS x y = -1001 := by
  unfold cellX
  rw [hasF_out hp h25 hx, if_pos rfl]
theorem dA_eq (hg : GeoOk r c f h t) (hp : PlOk r c f h t PA PS) (hh : ∀ i, i < sl → C i = C' i) : ∀ k, k ≤ r * c → dgA PA PS r c C sl k = dmA r c f h t C' sl k 1721
  | 0, _ => rfl
  | k + 1, hk => by
    have h25 : r * c ≤ 25 := Nat.mul_le_mul hg.1.2 hg.2.1.2
    have ih := dA_eq hg hp hh k (by omega)
    obtain ⟨ha, hka⟩ := adN_ok hg (show k < r * c by omega)
    have hc : ∀ y, yOk y → cellX PA PS (nI k) y = cgF r c t k (adN r c f h k) y := fun y hy => cell_eq hp h25 (by omega) ha hka hy
    unfold dgA dmA
    rw [ih, jf_cg hh, jf_cg hh]
    unfold jcF jcM
    rw [sm_cg hh, hc 0 (Or.inl rfl), hc 1 (Or.inr (Or.inl rfl)), hc 2 (Or.inr (Or.inr (Or.inl rfl))), hc 10 (Or.inr (Or.inr (Or.inr ⟨0, by decide, rfl⟩))), hc 11 (Or.inr (Or.inr (Or.inr ⟨1, by decide, rfl⟩))), hc 12 (Or.inr (Or.inr (Or.inr ⟨2, by decide, rfl⟩))), hc 13 (Or.inr (Or.inr (Or.inr ⟨3, by decide, rfl⟩)))]
theorem dig_eq (hg : GeoOk r c f h t) (hp : PlOk r c f h t PA PS) (hh : ∀ i, i < sl → C i = C' i) {pl : Nat} {G G' : Nat → Int32} (hG : ∀ i, i < pl → G i = G' i) : dgE pl sl r c f h t C (dgD G (dgC (lbA (((1 : Int32) <<< (PS 9 &&& 31)) - 1) PA C sl) (dgB (r * c) f h (jfF r c C sl (jfF r c C sl (dgA PA PS r c C sl (r * c)) 0 2) (c + 1) 2) (r * c))) pl) = dgM pl sl r c f h t C' G' := by
  unfold dgM
  rw [dE_cg hh, dD_cg hG, lbA_lbN hg hp, lb_cg hh, jf_cg hh, jf_cg hh, dA_eq hg hp hh _ (Nat.le_refl _)]
theorem ca_cg {A B : Nat → Int32} (hh : ∀ i, i < sl → C i = C' i) (hC : CaOk r c C sl A B) : CaOk r c C' sl A B := fun k κ hk h3 ha i hi => by rw [hC k κ hk h3 ha i hi, fd_cg hh]
/-- the two sides stand alike -/
def JI (pl sl r c f h t : Nat) (pgC stC : Nat → Int32) (PA : Nat → Nat → Int32) (PS : Nat → Int32) (BA : Nat → Nat → Int32) (BS : Nat → Int32) (MA : Nat → Nat → Int32) (MS : Nat → Int32) : Prop := pl ≤ 60 ∧ sl ≤ 64 ∧ GeoOk r c f h t ∧ PlOk r c f h t PA PS ∧ BnOk PA PS stC sl BA BS ∧ MSok r c f h t MS ∧ MS 0 = nI pl ∧ MS 2 = nI sl ∧ MS 22 = 0 ∧ (∀ j, j < pl → MA 1 j = pgC j) ∧ (∀ j, j < sl → MA 3 j = stC j) ∧ (∀ j, j < sl → sgnB (MA 3 j) = true) ∧ CaOk r c (MA 3) sl (MA 24) (MA 25)
def JW (pl sl : Nat) (pgC stC : Nat → Int32) (PA : Nat → Nat → Int32) (PS : Nat → Int32) (BA : Nat → Nat → Int32) (BS : Nat → Int32) (MA : Nat → Nat → Int32) (MS : Nat → Int32) (Mh : Int64) : Wd := WX pgC (nI pl) stC (nI sl) PA PS BA BS (WM MA MS Mh []).1
def Jt (w : Wd) : Prop := ∃ pl sl r c f h t pgC stC PA PS BA BS MA MS Mh, w = JW pl sl pgC stC PA PS BA BS MA MS Mh ∧ JI pl sl r c f h t pgC stC PA PS BA BS MA MS
end JOIN
