section MATHC
theorem mcr_ind (κ p κ' p' : Nat) (τ : Nat → Int32) (s : Int32) (d : Nat) {z z' : Nat × Nat × Int32} (h1 : z.1 = z'.1) (h2 : z.2.1 = z'.2.1) : (mcr κ p τ s d z).1 = (mcr κ' p' τ s d z').1 ∧ (mcr κ p τ s d z).2.1 = (mcr κ' p' τ s d z').2.1 := by
  unfold mcr
  by_cases e : isW (τ d) s = true
  · rw [if_pos e, if_pos e]
    by_cases e4 : d = 4
    · rw [if_pos e4, if_pos e4]
      exact ⟨h1, by show wrN s z.2.1 = wrN s z'.2.1; rw [h2]⟩
    · rw [if_neg e4, if_neg e4]
      refine ⟨?_, h2⟩
      show (mcB κ p d s z.1 z.2.2).1 = (mcB κ' p' d s z'.1 z'.2.2).1
      unfold mcB
      rw [h1]
      split <;> rfl
  · rw [if_neg e, if_neg e]
    exact ⟨h1, h2⟩
theorem wSt_ind (κ p κ' p' : Nat) (τ : Nat → Int32) (s : Int32) {z z' : Nat × Nat × Int32} (h1 : z.1 = z'.1) (h2 : z.2.1 = z'.2.1) : (wSt κ p τ s z).1 = (wSt κ' p' τ s z').1 ∧ (wSt κ p τ s z).2.1 = (wSt κ' p' τ s z').2.1 := by
  have a0 := mcr_ind κ p κ' p' τ s 0 h1 h2
  have a3 := mcr_ind κ p κ' p' τ s 3 a0.1 a0.2
  have a4 := mcr_ind κ p κ' p' τ s 4 a3.1 a3.2
  have a1 := mcr_ind κ p κ' p' τ s 1 a4.1 a4.2
  exact mcr_ind κ p κ' p' τ s 2 a1.1 a1.2
theorem sm_w {κ p : Nat} {τ C : Nat → Int32} {j : Nat} (h : ¬ C j = 114) : smZ κ p τ C (j + 1) = wSt κ p τ (C j) (smZ κ p τ C j) ∧ (smS κ p τ C (j + 1)).2.2.1 = (smS κ p τ C j).2.2.1 ∧ (smS κ p τ C (j + 1)).2.2.2.2 = (smS κ p τ C j).2.2.2.2 := by
  have e : smS κ p τ C (j + 1) = if C j = 114 then _ else _ := rfl
  unfold smZ
  rw [e, if_neg h]
  exact ⟨rfl, rfl, rfl⟩
theorem sm_r {κ p : Nat} {τ C : Nat → Int32} {j : Nat} (h : C j = 114) : smZ κ p τ C (j + 1) = smZ κ p τ C j ∧ (smS κ p τ C (j + 1)).2.2.1 = (smS κ p τ C j).2.2.1 ||| (1 <<< ((16 * nI (smS κ p τ C j).2.1 + nI (smS κ p τ C j).1) &&& 31)) ∧ (smS κ p τ C (j + 1)).2.2.2.2 = ((if (smS κ p τ C j).2.2.2.1 = nI (smS κ p τ C j).2.1 then (smS κ p τ C j).2.2.2.2.1 else (smS κ p τ C j).2.2.2.2.1 + 1), (if ¬ (smS κ p τ C j).2.2.2.1 = nI (smS κ p τ C j).2.1 ∧ (smS κ p τ C j).2.2.2.2.1 = 0 then nI j else (smS κ p τ C j).2.2.2.2.2.1), (if ¬ (smS κ p τ C j).2.2.2.1 = nI (smS κ p τ C j).2.1 ∧ (smS κ p τ C j).2.2.2.2.1 = 0 then (smS κ p τ C j).2.2.2.1 else (smS κ p τ C j).2.2.2.2.2.2)) := by
  have e : smS κ p τ C (j + 1) = if C j = 114 then _ else _ := rfl
  unfold smZ
  rw [e, if_pos h]
  exact ⟨rfl, rfl, rfl⟩
theorem lk_one {wr B x : Int32} {z : Int32 × Int32 × Int32 × Int32} {n k : Nat} (hk : k < n) (ho : ∀ i, i < n → i ≠ k → bt wr i = false) : lkS wr B x z n = if bt wr k = true then ((if ¬ z.2.2.2 = 0 then z.1 else nI k), (if ¬ z.2.2.2 = 0 then z.2.1 else x), (if ¬ z.2.2.2 = 0 then z.2.2.1 else nI (bN B k)), z.2.2.2 + 1) else z := by
  have h1 : ∀ j, j ≤ k → lkS wr B x z j = z := by
    intro j
    induction j with
    | zero => intro _; rfl
    | succ j ih =>
      intro hj
      rw [lkS_f (by rw [ho j (by omega) (by omega)]; decide)]
      exact ih (by omega)
  have h2 : lkS wr B x z (k + 1) = if bt wr k = true then ((if ¬ z.2.2.2 = 0 then z.1 else nI k), (if ¬ z.2.2.2 = 0 then z.2.1 else x), (if ¬ z.2.2.2 = 0 then z.2.2.1 else nI (bN B k)), z.2.2.2 + 1) else z := by
    by_cases e : bt wr k = true
    · rw [if_pos e, lkS_t e, h1 k (Nat.le_refl _)]
    · rw [if_neg e, lkS_f e, h1 k (Nat.le_refl _)]
  have h3 : ∀ j, k + 1 + j ≤ n → lkS wr B x z (k + 1 + j) = lkS wr B x z (k + 1) := by
    intro j
    induction j with
    | zero => intro _; rfl
    | succ j ih =>
      intro hj
      rw [show k + 1 + (j + 1) = (k + 1 + j) + 1 by omega, lkS_f (by rw [ho (k + 1 + j) (by omega) (by omega)]; decide)]
      exact ih (by omega)
  have h4 := h3 (n - (k + 1)) (by omega)
  rw [show k + 1 + (n - (k + 1)) = n by omega] at h4
  rw [h4, h2]
theorem lk_no {wr B x : Int32} {z : Int32 × Int32 × Int32 × Int32} : ∀ {n : Nat}, (∀ i, i < n → bt wr i = false) → lkS wr B x z n = z
  | 0, _ => rfl
  | n + 1, ho => by
    rw [lkS_f (by rw [ho n (by omega)]; decide)]
    exact lk_no (fun i hi => ho i (by omega))
def lbN (r c : Nat) (C : Nat → Int32) (j : Nat) : Int32 := match j with
  | 0 => 0
  | j + 1 => if C j = 122 then 0 else if C j = 111 then allI (r * c) else if figF (C j) = 0 then lbN r c C j else lbN r c C j ^^^ nI (mkT c (figT (C j)) (r * c))
theorem lbN_succ (r c : Nat) (C : Nat → Int32) (j : Nat) : lbN r c C (j + 1) = if C j = 122 then 0 else if C j = 111 then allI (r * c) else if figF (C j) = 0 then lbN r c C j else lbN r c C j ^^^ nI (mkT c (figT (C j)) (r * c)) := rfl
section GEOC
variable {r c f h t : Nat}
theorem lbA_lbN (hg : GeoOk r c f h t) {PA : Nat → Nat → Int32} {PS : Nat → Int32} (hp : PlOk r c f h t PA PS) (C : Nat → Int32) (j : Nat) : lbA (((1 : Int32) <<< (PS 9 &&& 31)) - 1) PA C j = lbN r c C j := by
  induction j with
  | zero => rfl
  | succ j ih =>
    rw [lbA_succ, lbN_succ, ih, hp.1.2.2.1]
    by_cases e : figF (C j) = 0
    · rw [if_pos e, if_pos e]; rfl
    · rw [if_neg e, if_neg e, (ct_nI hg hp e).1]; rfl
theorem sh_lb (hg : GeoOk r c f h t) {s S : Int32} (hs : sgnB s = true) (hr : ¬ s = 114) (hS : ∀ i, r * c ≤ i → bt S i = false) : shI (whI r c s) (tdI (r * c) s S) S = if s = 122 then 0 else if s = 111 then allI (r * c) else if figF s = 0 then S else S ^^^ nI (mkT c (figT s) (r * c)) := by
  have h25 : r * c ≤ 25 := Nat.mul_le_mul hg.1.2 hg.2.1.2
  refine b_ext (fun i hi => ?_)
  rw [sh_bit hi]
  rcases sg_cases hs hr with rfl | rfl | ⟨hf, h97, h1, h2⟩
  · rw [if_pos rfl, wh_bit hg hs hr hi, isW_all (s := 122) (t := tyN c i) (by decide) (Nat.mod_lt _ (by decide)), Bool.and_true, b_0]
    unfold tdI
    rw [if_pos rfl, b_0]
    by_cases e : i < r * c
    · rw [decide_eq_true e, if_pos rfl]
    · rw [decide_eq_false e, if_neg (by decide), hS i (by omega)]
  · rw [if_neg (show ¬ (111 : Int32) = 122 by decide), if_pos rfl, wh_bit hg hs hr hi, isW_all (s := 111) (t := tyN c i) (by decide) (Nat.mod_lt _ (by decide)), Bool.and_true, b_all h25 hi]
    unfold tdI
    rw [if_neg (show ¬ (111 : Int32) = 122 by decide), if_pos rfl, b_all h25 hi]
    by_cases e : i < r * c
    · rw [decide_eq_true e, if_pos rfl]
    · rw [decide_eq_false e, if_neg (by decide), hS i (by omega)]
  · rw [if_neg h1, if_neg h2, if_neg hf, b_xor]
    unfold whI tdI
    rw [if_pos h97, if_neg h1, if_neg h2, b_xor, b_m1 i hi]
    cases bt (nI (mkT c (figT s) (r * c))) i <;> cases bt S i <;> rfl
def LR (r c k κ p : Nat) (C : Nat → Int32) (MS MT : Nat → Int32) (j : Nat) : Prop := (∀ i, ¬ (i = 9 ∨ i = 10 ∨ (17 ≤ i ∧ i ≤ 21)) → MT i = MS i) ∧ RB r c k (MT 9) (MT 10) (smZ κ p (tauG r c k) C j) ∧ MT 10 = lbN r c C j ∧ (∃ n, n ≤ j ∧ MT 20 = nI n ∧ (smS κ p (tauG r c k) C j).2.2.2.2.1 = nI n) ∧ (MT 20 = 0 → MT 17 = -1 ∧ MT 21 = 0) ∧ (¬ MT 20 = 0 → MT 17 = (smS κ p (tauG r c k) C j).2.2.2.2.2.1 ∧ MT 19 = (smS κ p (tauG r c k) C j).2.2.2.2.2.2 ∧ MT 18 = nI k ∧ MT 21 = (1 : Int32) <<< (nI k &&& 31))
theorem pat_0 (k : Nat) : patN r c 0 k = 0 := by
  have key : ∀ d, pbN r c 0 k d = 0 := by
    intro d
    unfold pbN
    split
    · rfl
    · unfold bN; rw [b_0, if_neg (by decide)]
  unfold patN
  rw [key 0, key 1, key 2, key 3]
theorem bN_0 (i : Nat) : bN 0 i = 0 := by unfold bN; rw [b_0, if_neg (by decide)]
theorem lr_0 (hg : GeoOk r c f h t) {k κ p : Nat} (hk : k < r * c) {C MS MT : Nat → Int32} (hu : ∀ i, ¬ (i = 9 ∨ i = 10 ∨ (17 ≤ i ∧ i ≤ 21)) → MT i = MS i) (h9 : MT 9 = hldN r c k κ p 0) (h10 : MT 10 = 0) (h17 : MT 17 = -1) (h20 : MT 20 = 0) (h21 : MT 21 = 0) : LR r c k κ p C MS MT 0 := by
  obtain ⟨q1, q2, q3⟩ := hld_see hg (κ := κ) (p := p) hk 0
  rw [pat_0] at q1 q2
  rw [bN_0] at q2
  refine ⟨hu, ?_, h10, ⟨0, Nat.le_refl _, h20, rfl⟩, fun _ => ⟨h17, h21⟩, fun e => absurd h20 e⟩
  rw [h9, h10]
  refine ⟨q1, q2.symm, q3, (bN_0 k).symm, fun i _ => b_0 i⟩
theorem lr_write (hg : GeoOk r c f h t) {k κ p : Nat} (hk : k < r * c) (h3 : κ < 3) (hp : p < ptsN κ) {C MS MT MU : Nat → Int32} {j : Nat} (hs : sgnB (C j) = true) (hr : ¬ C j = 114) (hL : LR r c k κ p C MS MT j) (hu : ∀ i, ¬ (i = 9 ∨ i = 10) → MU i = MT i) (h9 : MU 9 = wAl r c k κ p (whI r c (C j)) (tdI (r * c) (C j) (MT 10)) (plI (whI r c (C j)) (nrI r c k) (tdI (r * c) (C j) (MT 10)) (MT 9)) (r * c)) (h10 : MU 10 = shI (whI r c (C j)) (tdI (r * c) (C j) (MT 10)) (MT 10)) : LR r c k κ p C MS MU (j + 1) := by
  obtain ⟨l1, l2, l3, ⟨n, n1, n2, n3⟩, l5, l6⟩ := hL
  obtain ⟨e1, _, e3⟩ := sm_w (κ := κ) (p := p) (τ := tauG r c k) (C := C) hr
  refine ⟨fun i hi => (hu i (by omega)).trans (l1 i hi), ?_, ?_, ⟨n, by omega, by rw [hu 20 (by omega)]; exact n2, by rw [e3]; exact n3⟩, ?_, ?_⟩
  · rw [h9, h10, e1]
    exact rb_step hg hk h3 hp hs hr l2
  · rw [h10, sh_lb hg hs hr l2.2.2.2.2, lbN_succ, l3]
  · rw [hu 20 (by omega), hu 17 (by omega), hu 21 (by omega)]
    exact l5
  · rw [hu 20 (by omega), hu 17 (by omega), hu 21 (by omega), hu 18 (by omega), hu 19 (by omega), e3]
    exact l6
theorem lr_look (hg : GeoOk r c f h t) {k κ p : Nat} (hk : k < r * c) {C MS MT MU : Nat → Int32} {j : Nat} (hj : j < 64) (hr : C j = 114) (hL : LR r c k κ p C MS MT j) (hu : ∀ i, ¬ (17 ≤ i ∧ i ≤ 21) → MU i = MT i) (hl : (MU 18, MU 17, MU 19, MU 20) = lkS (MT 9 ^^^ MT 10) (MT 9) (nI j) (MT 18, MT 17, MT 19, MT 20) (r * c)) (h21 : MU 21 = MT 21 ||| (MT 9 ^^^ MT 10)) : LR r c k κ p C MS MU (j + 1) := by
  have h25 : r * c ≤ 25 := Nat.mul_le_mul hg.1.2 hg.2.1.2
  obtain ⟨l1, l2, l3, ⟨n, n1, n2, n3⟩, l5, l6⟩ := hL
  obtain ⟨e1, _, e3⟩ := sm_r (κ := κ) (p := p) (τ := tauG r c k) (C := C) hr
  obtain ⟨b1, b2, b3, b4, b5⟩ := l2
  have b2' : (smS κ p (tauG r c k) C j).2.2.2.1 = nI (bN (MT 9) k) := b2
  have b4' : (smS κ p (tauG r c k) C j).2.1 = bN (MT 10) k := b4
  have hx : ∀ i, i < 32 → i ≠ k → bt (MT 9 ^^^ MT 10) i = false := by
    intro i hi hik
    rw [b_xor, b3 i hi hik]
    cases bt (MT 10) i <;> rfl
  rw [lk_one hk (fun i hi hik => hx i (by omega) hik)] at hl
  have hRB : RB r c k (MU 9) (MU 10) (smZ κ p (tauG r c k) C (j + 1)) := by
    rw [e1, hu 9 (by omega), hu 10 (by omega)]
    exact ⟨b1, b2, b3, b4, b5⟩
  have hlb : MU 10 = lbN r c C (j + 1) := by
    rw [hu 10 (by omega), lbN_succ, hr, if_neg (by decide), if_neg (by decide), if_pos (by decide)]
    exact l3
  by_cases e : bt (MT 9 ^^^ MT 10) k = true
  · have hne : ¬ (smS κ p (tauG r c k) C j).2.2.2.1 = nI (smS κ p (tauG r c k) C j).2.1 := by
      rw [b2', b4']
      intro h1
      have h2 := nI_inj (Nat.lt_of_lt_of_le (bN_2 _ _) (by decide)) (Nat.lt_of_lt_of_le (bN_2 _ _) (by decide)) h1
      have h4 := bN_bt h2
      rw [b_xor, h4] at e
      cases h5 : bt (MT 10) k <;> rw [h5] at e <;> exact absurd e (by decide)
    have hw : MT 9 ^^^ MT 10 = (1 : Int32) <<< (nI k &&& 31) := by
      refine b_ext (fun i hi => ?_)
      rw [b_1shl (by omega) hi]
      by_cases e2 : i = k
      · rw [e2, e, decide_eq_true rfl]
      · rw [hx i hi e2, decide_eq_false e2]
    rw [if_pos e] at hl
    obtain ⟨q1, hl2⟩ := Prod.mk.inj hl
    obtain ⟨q2, hl3⟩ := Prod.mk.inj hl2
    obtain ⟨q3, q4⟩ := Prod.mk.inj hl3
    have q1' : MU 18 = if ¬ MT 20 = 0 then MT 18 else nI k := q1
    have q2' : MU 17 = if ¬ MT 20 = 0 then MT 17 else nI j := q2
    have q3' : MU 19 = if ¬ MT 20 = 0 then MT 19 else nI (bN (MT 9) k) := q3
    have q4' : MU 20 = MT 20 + 1 := q4
    rw [if_neg hne] at e3
    have hn1 : MU 20 = nI (n + 1) := by rw [q4', n2, nI_1]
    have hm : (smS κ p (tauG r c k) C j).2.2.2.2.1 = MT 20 := by rw [n3, n2]
    refine ⟨fun i hi => (hu i (by omega)).trans (l1 i hi), hRB, hlb, ⟨n + 1, by omega, hn1, by rw [e3]; show _ + 1 = _; rw [n3, nI_1]⟩, fun h0 => ?_, fun _ => ?_⟩
    · rw [hn1] at h0
      exact absurd (nI_inj (b := 0) (by omega) (by decide) h0) (by omega)
    · have f1 : (smS κ p (tauG r c k) C (j + 1)).2.2.2.2.2.1 = (if ¬ (smS κ p (tauG r c k) C j).2.2.2.1 = nI (smS κ p (tauG r c k) C j).2.1 ∧ (smS κ p (tauG r c k) C j).2.2.2.2.1 = 0 then nI j else (smS κ p (tauG r c k) C j).2.2.2.2.2.1) := by rw [e3]
      have f2 : (smS κ p (tauG r c k) C (j + 1)).2.2.2.2.2.2 = (if ¬ (smS κ p (tauG r c k) C j).2.2.2.1 = nI (smS κ p (tauG r c k) C j).2.1 ∧ (smS κ p (tauG r c k) C j).2.2.2.2.1 = 0 then (smS κ p (tauG r c k) C j).2.2.2.1 else (smS κ p (tauG r c k) C j).2.2.2.2.2.2) := by rw [e3]
      rw [hm] at f1 f2
      rw [f1, f2, h21, hw, q1', q2', q3']
      by_cases e4 : MT 20 = 0
      · have hp4 : ¬ (smS κ p (tauG r c k) C j).2.2.2.1 = nI (smS κ p (tauG r c k) C j).2.1 ∧ MT 20 = 0 := ⟨hne, e4⟩
        rw [if_pos hp4, if_pos hp4, b2', (l5 e4).2, if_neg (show ¬ ¬ MT 20 = 0 from fun hh => hh e4), if_neg (show ¬ ¬ MT 20 = 0 from fun hh => hh e4), if_neg (show ¬ ¬ MT 20 = 0 from fun hh => hh e4)]
        refine ⟨rfl, rfl, rfl, ?_⟩
        refine b_ext (fun i hi => ?_)
        rw [b_or, b_0, Bool.false_or]
      · obtain ⟨p1, p2, p3, p4⟩ := l6 e4
        have hn4 : ¬ (¬ (smS κ p (tauG r c k) C j).2.2.2.1 = nI (smS κ p (tauG r c k) C j).2.1 ∧ MT 20 = 0) := fun hh => e4 hh.2
        rw [if_neg hn4, if_neg hn4, if_pos e4, if_pos e4, if_pos e4, p4]
        refine ⟨p1, p2, p3, ?_⟩
        refine b_ext (fun i hi => ?_)
        rw [b_or, Bool.or_self]
  · have heq : (smS κ p (tauG r c k) C j).2.2.2.1 = nI (smS κ p (tauG r c k) C j).2.1 := by
      rw [b2', b4']
      refine congrArg nI (bN_of ?_)
      rw [b_xor] at e
      cases h5 : bt (MT 9) k <;> cases h6 : bt (MT 10) k <;> rw [h5, h6] at e <;> first | rfl | exact absurd rfl e
    have hw : MT 9 ^^^ MT 10 = 0 := by
      refine b_ext (fun i hi => ?_)
      rw [b_0]
      by_cases e2 : i = k
      · rw [e2]; cases h5 : bt (MT 9 ^^^ MT 10) k
        · rfl
        · exact absurd h5 e
      · exact hx i hi e2
    rw [if_neg e] at hl
    obtain ⟨q1, hl2⟩ := Prod.mk.inj hl
    obtain ⟨q2, hl3⟩ := Prod.mk.inj hl2
    obtain ⟨q3, q4⟩ := Prod.mk.inj hl3
    rw [if_pos heq, if_neg (fun hh => hh.1 heq), if_neg (fun hh => hh.1 heq)] at e3
    have hw21 : MU 21 = MT 21 := by
      rw [h21, hw]
      refine b_ext (fun i hi => ?_)
      rw [b_or, b_0, Bool.or_false]
    refine ⟨fun i hi => (hu i (by omega)).trans (l1 i hi), hRB, hlb, ⟨n, by omega, by rw [q4]; exact n2, by rw [e3]; exact n3⟩, ?_, ?_⟩
    · rw [q4, q2, hw21]; exact l5
    · rw [q4, q2, q3, q1, hw21, e3]; exact l6
end GEOC
end MATHC
