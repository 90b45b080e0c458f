section MATH
def allI (n : Nat) : Int32 := ((1 : Int32) <<< (nI n &&& 31)) - 1
theorem b_all {n i : Nat} (hn : n ≤ 25) (hi : i < 32) : bt (allI n) i = decide (i < n) := by
  have key : ∀ (n : Fin 26) (i : Fin 32), bt (allI n.val) i.val = decide (i.val < n.val) := by decide +kernel
  exact key ⟨n, by omega⟩ ⟨i, hi⟩
def whI (r c : Nat) (s : Int32) : Int32 := if s < 97 then nI (mkT c (figT s) (r * c)) else allI (r * c)
def tdI (n : Nat) (s S : Int32) : Int32 := if s = 122 then 0 else if s = 111 then allI n else S ^^^ (-1)
theorem b_mk : ∀ (r c : Fin 6) (t : Fin 5) (i : Fin 32), 3 ≤ r.val → 3 ≤ c.val → bt (nI (mkT c.val t.val (r.val * c.val))) i.val = (decide (i.val < r.val * c.val) && decide (tyN c.val i.val = t.val)) := by decide +kernel
theorem sg_cases {s : Int32} (h : sgnB s = true) (hr : ¬ s = 114) : s = 122 ∨ s = 111 ∨ (¬ figF s = 0 ∧ s < 97 ∧ ¬ s = 122 ∧ ¬ s = 111) := by
  by_cases h1 : s = 122
  · exact Or.inl h1
  · by_cases h2 : s = 111
    · exact Or.inr (Or.inl h2)
    · refine Or.inr (Or.inr ⟨?_, ?_, h1, h2⟩)
      · intro e
        have h3 := sgnB_fig h1 h2 hr
        rw [h, e] at h3
        exact absurd h3 (by decide)
      · have h3 := sgnB_fig h1 h2 hr
        rw [h] at h3
        have h4 : ¬ figF s = 0 := by rw [← h3]; decide
        unfold figF at h4
        split at h4
        · exact absurd rfl h4
        · split at h4
          · exact absurd rfl h4
          · rename_i _ h5
            rw [Int32.le_iff_toInt_le] at h5
            rw [Int32.lt_iff_toInt_lt]
            have e1 : (53 : Int32).toInt = 53 := by decide
            have e2 : (97 : Int32).toInt = 97 := by decide
            omega
theorem isW_fig {s : Int32} {t : Nat} (hf : ¬ figF s = 0) (ht : t < 5) : isW (nI t) s = decide (t = figT s) := by
  obtain ⟨h1, h2⟩ := fig_idx hf
  unfold isW
  rw [decide_eq_false (oI_ne (by omega)), decide_eq_false hf, h1]
  by_cases e : t = figT s
  · rw [decide_eq_true (by rw [e]), decide_eq_true e]; rfl
  · rw [decide_eq_false (fun h => e (nI_inj (by omega) (by omega) h)), decide_eq_false e]; rfl
theorem isW_all {s : Int32} {t : Nat} (hf : figF s = 0) (ht : t < 5) : isW (nI t) s = true := by
  unfold isW
  rw [decide_eq_false (oI_ne (by omega)), decide_eq_true hf]
  rfl
theorem isW_none (s : Int32) : isW (-1) s = false := by
  unfold isW
  rw [decide_eq_true rfl]
  rfl
section GEO
variable {r c f h t : Nat}
theorem wh_bit (hg : GeoOk r c f h t) {s : Int32} (hs : sgnB s = true) (hr : ¬ s = 114) {i : Nat} (hi : i < 32) : bt (whI r c s) i = (decide (i < r * c) && isW (nI (tyN c i)) s) := by
  have h25 : r * c ≤ 25 := Nat.mul_le_mul hg.1.2 hg.2.1.2
  have h5 : tyN c i < 5 := Nat.mod_lt _ (by decide)
  unfold whI
  rcases sg_cases hs hr with rfl | rfl | ⟨hf, h97, _, _⟩
  · rw [if_neg (by decide), b_all h25 hi, isW_all (by decide) h5, Bool.and_true]
  · rw [if_neg (by decide), b_all h25 hi, isW_all (by decide) h5, Bool.and_true]
  · rw [if_pos h97, isW_fig hf h5]
    exact b_mk ⟨r, by have := hg.1.2; omega⟩ ⟨c, by have := hg.2.1.2; omega⟩ ⟨figT s, (fig_idx hf).2⟩ ⟨i, hi⟩ hg.1.1 hg.2.1.1
theorem td_bit (hg : GeoOk r c f h t) {s S : Int32} (hs : sgnB s = true) (hr : ¬ s = 114) {i : Nat} (hi : i < r * c) : bN (tdI (r * c) s S) i = wrN s (bN S i) := by
  have h25 : r * c ≤ 25 := Nat.mul_le_mul hg.1.2 hg.2.1.2
  unfold tdI wrN
  rcases sg_cases hs hr with rfl | rfl | ⟨hf, h97, h1, h2⟩
  · rw [if_pos rfl, if_pos rfl]
    unfold bN
    rw [b_0, if_neg (by decide)]
  · rw [if_neg (by decide), if_pos rfl, if_neg (by decide), if_pos rfl]
    unfold bN
    rw [b_all h25 (by omega), decide_eq_true hi, if_pos rfl]
  · rw [if_neg h1, if_neg h2, if_neg h1, if_neg h2]
    unfold bN
    rw [b_xor, b_m1 i (by omega)]
    cases bt S i <;> rfl
theorem bN_bt {A B : Int32} {i j : Nat} (h : bN A i = bN B j) : bt A i = bt B j := by
  unfold bN at h
  cases h1 : bt A i <;> cases h2 : bt B j <;> rw [h1, h2] at h <;> first | rfl | exact absurd h (by decide)
def nearB (r c k i : Nat) : Bool := decide (i = k) || (decide (nbO r c k 0 = some i) || (decide (nbO r c k 1 = some i) || (decide (nbO r c k 2 = some i) || decide (nbO r c k 3 = some i))))
theorem b_nrD {k d i : Nat} (hk : k < r * c) (h25 : r * c ≤ 25) (hi : i < 32) : bt (nrD r c k d) i = decide (nbO r c k d = some i) := by
  unfold nrD
  cases hn : nbO r c k d with
  | none =>
    rw [if_neg (fun h => h rfl), b_0]
    rfl
  | some m =>
    have hm := nb_lt hk hn
    rw [if_pos (show ¬ oI (some m) = -1 from oI_ne (by omega)), show oI (some m) = nI m from rfl, b_1shl (by omega) hi]
    by_cases e : i = m
    · rw [decide_eq_true e, decide_eq_true (by rw [e])]
    · rw [decide_eq_false e, decide_eq_false (fun h => e (Option.some.inj h).symm)]
theorem b_nr {k i : Nat} (hk : k < r * c) (h25 : r * c ≤ 25) (hi : i < 32) : bt (nrI r c k) i = nearB r c k i := by
  unfold nrI nearB
  rw [b_or, b_or, b_or, b_or, b_1shl (by omega) hi, b_nrD hk h25 hi, b_nrD hk h25 hi, b_nrD hk h25 hi, b_nrD hk h25 hi]
  simp only [Bool.or_assoc]
def nrL (r c k : Nat) : List Nat := [nbO r c k 0, nbO r c k 3, some k, nbO r c k 1, nbO r c k 2].filterMap id
theorem nr_list : ∀ (r c : Fin 6) (k : Fin 25), 3 ≤ r.val → 3 ≤ c.val → k.val < r.val * c.val → (List.range (r.val * c.val)).filter (nearB r.val c.val k.val) = nrL r.val c.val k.val := by decide +kernel
theorem nb_apart0 : ∀ (r c : Fin 6) (k : Fin 25) (d e : Fin 4), 3 ≤ r.val → 3 ≤ c.val → k.val < r.val * c.val → nbO r.val c.val k.val d.val = nbO r.val c.val k.val e.val → nbO r.val c.val k.val d.val ≠ none → d = e := by decide +kernel
theorem nb_self0 : ∀ (r c : Fin 6) (k : Fin 25) (d : Fin 4), 3 ≤ r.val → 3 ≤ c.val → k.val < r.val * c.val → nbO r.val c.val k.val d.val ≠ some k.val := by decide +kernel
theorem nb_apart (hg : GeoOk r c f h t) {k d e m : Nat} (hk : k < r * c) (hd : d < 4) (he : e < 4) (h1 : nbO r c k d = some m) (h2 : nbO r c k e = some m) : d = e := by
  have h25 : r * c ≤ 25 := Nat.mul_le_mul hg.1.2 hg.2.1.2
  have := nb_apart0 ⟨r, by have := hg.1.2; omega⟩ ⟨c, by have := hg.2.1.2; omega⟩ ⟨k, by omega⟩ ⟨d, hd⟩ ⟨e, he⟩ hg.1.1 hg.2.1.1 hk (h1.trans h2.symm) (by rw [h1]; exact fun h => by cases h)
  exact congrArg Fin.val this
theorem nb_self (hg : GeoOk r c f h t) {k d m : Nat} (hk : k < r * c) (hd : d < 4) (h1 : nbO r c k d = some m) : m ≠ k := by
  have h25 : r * c ≤ 25 := Nat.mul_le_mul hg.1.2 hg.2.1.2
  rintro rfl
  exact nb_self0 ⟨r, by have := hg.1.2; omega⟩ ⟨c, by have := hg.2.1.2; omega⟩ ⟨m, by omega⟩ ⟨d, hd⟩ hg.1.1 hg.2.1.1 hk h1
theorem fold_if {α : Type} (P : Nat → Bool) (F : α → Nat → α) : ∀ (l : List Nat) (a : α), l.foldl (fun a i => if P i = true then F a i else a) a = (l.filter P).foldl F a
  | [], a => rfl
  | i :: l, a => by
    rw [List.foldl_cons, List.filter_cons]
    by_cases hp : P i = true
    · rw [if_pos hp, if_pos hp, List.foldl_cons, fold_if P F l]
    · rw [if_neg hp, if_neg hp, fold_if P F l]
theorem wAl_fold (k κ p : Nat) (wh td B0 : Int32) (j : Nat) : wAl r c k κ p wh td B0 j = (List.range j).foldl (fun B i => if bt (wh &&& nrI r c k) i = true then wrtN r c k κ p i (bN td i) B else B) B0 := by
  induction j with
  | zero => rfl
  | succ j ih => rw [List.range_succ, List.foldl_append, ← ih]; rfl
theorem foldl_congr' {α : Type} {F G : α → Nat → α} : ∀ (l : List Nat) (a : α), (∀ a i, i ∈ l → F a i = G a i) → l.foldl F a = l.foldl G a
  | [], _, _ => rfl
  | i :: l, a, h => by
    rw [List.foldl_cons, List.foldl_cons, h a i List.mem_cons_self]
    exact foldl_congr' l _ (fun a j hj => h a j (List.mem_cons_of_mem _ hj))
def wD (r c k κ p : Nat) (wh td : Int32) (o : Option Nat) (B : Int32) : Int32 := match o with
  | none => B
  | some m => if bt wh m = true then wrtN r c k κ p m (bN td m) B else B
theorem fm_fold {α : Type} (F : α → Nat → α) (o : Option Nat) (os : List (Option Nat)) (a : α) : ((o :: os).filterMap id).foldl F a = (os.filterMap id).foldl F (match o with | none => a | some m => F a m) := by cases o <;> rfl
theorem wAl_near (hg : GeoOk r c f h t) {k : Nat} (hk : k < r * c) (κ p : Nat) (wh td B0 : Int32) : wAl r c k κ p wh td B0 (r * c) = wD r c k κ p wh td (nbO r c k 2) (wD r c k κ p wh td (nbO r c k 1) (wD r c k κ p wh td (some k) (wD r c k κ p wh td (nbO r c k 3) (wD r c k κ p wh td (nbO r c k 0) B0)))) := by
  have h25 : r * c ≤ 25 := Nat.mul_le_mul hg.1.2 hg.2.1.2
  rw [wAl_fold]
  have e1 : (List.range (r * c)).foldl (fun B i => if bt (wh &&& nrI r c k) i = true then wrtN r c k κ p i (bN td i) B else B) B0 = (List.range (r * c)).foldl (fun B i => if nearB r c k i = true then (if bt wh i = true then wrtN r c k κ p i (bN td i) B else B) else B) B0 := by
    refine foldl_congr' _ _ (fun a i hi => ?_)
    have hi2 : i < r * c := List.mem_range.mp hi
    rw [b_and, b_nr hk h25 (by omega)]
    cases nearB r c k i <;> cases bt wh i <;> rfl
  rw [e1, fold_if (nearB r c k) (fun B i => if bt wh i = true then wrtN r c k κ p i (bN td i) B else B), nr_list ⟨r, by have := hg.1.2; omega⟩ ⟨c, by have := hg.2.1.2; omega⟩ ⟨k, by omega⟩ hg.1.1 hg.2.1.1 hk]
  unfold nrL
  rw [fm_fold, fm_fold, fm_fold, fm_fold, fm_fold]
  rfl
end GEO
end MATH
