/-! THE ABSTRACT MACHINE: cells by virtual numbers, blocks of instructions computed, rules over an abstract predicate g -/
abbrev Cl : Type := (Nat × List Value) ⊕ (Bool × Nat × (Nat → Int32))
abbrev Wd : Type := List Cl × List Cl
abbrev Lo : Type := List (Nat × Value)
abbrev Ev : Type := Nat × Nat × Nat
abbrev It : Type := Instr × Nat × Nat × Int32
def adr (E : Ev) (k : Nat) : Nat := if k < 98 then E.1 + 19 + k else if k = 98 then E.2.1 else if k = 99 then E.2.2 else E.1 + (k - 100)
def rvl (E : Ev) (v : Value) : Value := match v with
  | .ref k => .ref (adr E k)
  | v => v
def rlo (E : Ev) (l : Lo) : Lo := l.map fun q => (q.1, rvl E q.2)
def rcl (E : Ev) (cI cZ : ClassId) (c : Cl) : va_E := match c with
  | .inl o => .inr (o.1, o.2.map (rvl E))
  | .inr a => .inl (bif a.1 then cZ else cI, a.2.1, .inl a.2.2)
def rwd (E : Ev) (cI cZ : ClassId) (w : Wd) : va_W := w.2.mapIdx (fun j c => (E.1 + j, rcl E cI cZ c)) ++ w.1.mapIdx (fun j c => (E.1 + 19 + j, rcl E cI cZ c))
def lkc (w : Wd) (k : Nat) : Option Cl := if k < 98 then w.1[k]? else if k < 100 then none else w.2[k - 100]?
def stc (w : Wd) (k : Nat) (c : Cl) : Wd := if k < 98 then (w.1.set k c, w.2) else (w.1, w.2.set (k - 100) c)
def psn (w : Wd) (k : Nat) : Nat := if k < 98 then w.2.length + k else k - 100
theorem rwd_get {E : Ev} {cI cZ : ClassId} {w : Wd} {k : Nat} {c : Cl} (h : lkc w k = some c) : (rwd E cI cZ w)[psn w k]? = some (adr E k, rcl E cI cZ c) := by
  unfold lkc at h
  unfold rwd psn adr
  by_cases h1 : k < 98
  · rw [if_pos h1] at h
    rw [if_pos h1, if_pos h1, List.getElem?_append_right (by simp), List.length_mapIdx, Nat.add_sub_cancel_left, List.getElem?_mapIdx, h]
    rfl
  · rw [if_neg h1] at h
    by_cases h2 : k < 100
    · rw [if_pos h2] at h; cases h
    · rw [if_neg h2] at h
      have hl : k - 100 < w.2.length := (List.getElem?_eq_some_iff.mp h).1
      rw [if_neg h1, if_neg h1, if_neg (by omega), if_neg (by omega), List.getElem?_append_left (by simpa using hl), List.getElem?_mapIdx, h]
      rfl
theorem mapIdx_set' {α β : Type} (f : Nat → α → β) (l : List α) (k : Nat) (a : α) : (l.set k a).mapIdx f = (l.mapIdx f).set k (f k a) := by
  apply List.ext_getElem?
  intro i
  by_cases hk : i = k
  · subst hk
    by_cases hl : i < l.length
    · simp [List.getElem?_mapIdx, hl]
    · simp [List.getElem?_mapIdx, List.getElem?_eq_none (Nat.le_of_not_lt hl)]
  · simp [List.getElem?_mapIdx, List.getElem?_set_ne (Ne.symm hk)]
theorem rwd_set {E : Ev} {cI cZ : ClassId} {w : Wd} {k : Nat} {c c0 : Cl} (h : lkc w k = some c0) : (rwd E cI cZ w).set (psn w k) (adr E k, rcl E cI cZ c) = rwd E cI cZ (stc w k c) := by
  unfold lkc at h
  unfold rwd psn stc
  by_cases h1 : k < 98
  · rw [if_pos h1, if_pos h1, List.set_append_right _ _ (by simp), List.length_mapIdx, Nat.add_sub_cancel_left]
    dsimp only
    rw [mapIdx_set']
    congr 2
    unfold adr
    rw [if_pos h1]
  · rw [if_neg h1] at h
    by_cases h2 : k < 100
    · rw [if_pos h2] at h; cases h
    · rw [if_neg h2] at h
      have hl : k - 100 < w.2.length := (List.getElem?_eq_some_iff.mp h).1
      rw [if_neg h1, if_neg h1, List.set_append_left _ _ (by simpa using hl)]
      dsimp only
      rw [mapIdx_set']
      congr 2
      unfold adr
      rw [if_neg h1, if_neg (by omega), if_neg (by omega)]
theorem stc_len {w : Wd} {k : Nat} {c : Cl} : (stc w k c).2.length = w.2.length ∧ (stc w k c).1.length = w.1.length := by
  unfold stc
  by_cases h1 : k < 98
  · rw [if_pos h1]; exact ⟨rfl, by simp⟩
  · rw [if_neg h1]; exact ⟨by simp, rfl⟩
def ordF (j : Nat) : Int32 := match j with | 0 => 0 | 1 => 3 | 2 => 4 | 3 => 1 | _ => 2
def HH (E : Ev) (D : va_G) (cI cZ : ClassId) (w : Wd) (H : Heap) : Prop := va_P D vwCl (rwd E cI cZ w) H ∧ va_D (fun q => E.1 ≤ q) (rwd E cI cZ w) ∧ H.size = E.1 + w.2.length + w.1.length
def KK (E : Ev) (D : va_G) (cI cZ : ClassId) (U : State) : Prop := va_K D vwCl [(cI, .int), (cZ, .boolean)] U ∧ (∀ w ∈ lw_nest, va_Nw w U) ∧ va_Z "DisturbedCells$Bench" "ORDER" "[I" (.ref E.2.1) (fun q => E.1 ≤ q) U U.heap ∧ va_T .int E.2.1 5 (fun j => .int (ordF j)) (fun q => E.1 ≤ q) U U.heap
def retI (mt : Mt) (pc : Nat) (r : Option Value) : Prop := (r = none ∧ mt.2.2.2.1 = none ∧ decode mt.2.1 pc = .ok (.return_, 1)) ∨ (∃ v : Int32, r = some (.int v) ∧ (mt.2.2.2.1 = some .int ∨ (mt.2.2.2.1 = some .boolean ∧ (v = 0 ∨ v = 1))) ∧ decode mt.2.1 pc = .ok (.ireturn, 1)) ∨ (∃ v : Int64, r = some (.long v) ∧ mt.2.2.2.1 = some .long ∧ decode mt.2.1 pc = .ok (.lreturn, 1))
def Gp (p : Program) (l : Launch) (e : Env) (R : Room) (s : State) (m : MethodId) (args : Array Value) (below : List Frame) (meth : Method) (c : Code) (Q : State → Prop) (E : Ev) (D : va_G) (cI cZ : ClassId) (nL : Nat) : Nat → Nat → Nat → Lo → List Value → Wd → Prop := fun cs sl pc lo st w => ∀ (H : Heap) (locs : List Loc) (ls : Array Slot), HH E D cI cZ w H → va_S (fun q => E.1 ≤ q) s.heap H locs → lv_has ls nL (rlo E lo) → W p l e R s m args below meth c H locs cs sl Q (F0 m pc ls (st.map (rvl E)))
def Cx (d : Nat) (mt : Mt) (mc ms : Nat) (post : Option Value → Wd → Prop) (L : Nat) (xs : Nat → Int32) (p : Program) (l : Launch) (e : Env) (R : Room) (s : State) (m : MethodId) (args : Array Value) (below : List Frame) (meth : Method) (c : Code) (Q : State → Prop) (E : Ev) (D : va_G) (cI cZ : ClassId) : Prop :=
  p.tables.exec = Jvm.exec ∧ c.code = mt.2.1 ∧ c.maxLocals = mt.2.2.1 ∧ s.vm.findClass (oN mt.2.2.2.2) = some m.cls ∧ (∀ w ∈ lw_good, w.before args s = true) ∧ KK E D cI cZ s ∧ E.1 ≤ s.heap.size ∧ (d ≤ R.frames ∧ 40 * d ≤ R.locals ∧ mc ≤ R.cells ∧ ms ≤ R.slots) ∧ (mt.2.2.2.2 < 5 → meth.name = mt.1.name) ∧
  (∀ (pc : Nat) (r : Option Value) (w : Wd) (H : Heap) (locs : List Loc) (ls : Array Slot), retI mt pc r → post r w → HH E D cI cZ w H → va_S (fun q => E.1 ≤ q) s.heap H locs → W p l e R s m args below meth c H locs mc ms Q (F0 m pc ls (r.toList.map (rvl E)))) ∧
  (L = 4000 ∨ (va_X E.2.2 L xs s s.heap ∧ E.2.2 < s.heap.size ∧ E.2.2 < E.1))
def Mach (d : Nat) (mt : Mt) (mc ms : Nat) (post : Option Value → Wd → Prop) (L : Nat) (xs : Nat → Int32) (g : Nat → Nat → Nat → Lo → List Value → Wd → Prop) : Prop :=
  ∃ (p : Program) (l : Launch) (e : Env) (R : Room) (s : State) (m : MethodId) (args : Array Value) (below : List Frame) (meth : Method) (c : Code) (Q : State → Prop) (E : Ev) (D : va_G) (cI cZ : ClassId), Cx d mt mc ms post L xs p l e R s m args below meth c Q E D cI cZ ∧ g = Gp p l e R s m args below meth c Q E D cI cZ mt.2.2.1
-- what a block's items do
def glo (lo : Lo) (i : Nat) : Option Value := match lo with
  | [] => none
  | q :: r => bif q.1 == i then some q.2 else glo r i
def slo (lo : Lo) (i : Nat) (v : Value) : Lo := (i, v) :: lo.filter (fun q => !(q.1 == i) && !(q.1 + 1 == i && q.2.category == 2))
def slo2 (lo : Lo) (i : Nat) (v : Value) : Lo := (i, v) :: lo.filter (fun q => !(q.1 == i) && (!(q.1 == i + 1) && !(q.1 + 1 == i && q.2.category == 2)))
theorem glo_mem {lo : Lo} {i : Nat} {v : Value} (h : glo lo i = some v) : (i, v) ∈ lo := by
  induction lo with
  | nil => cases h
  | cons q r ih =>
    unfold glo at h
    cases hq : q.1 == i with
    | true =>
      rw [hq] at h
      have e : q.2 = v := Option.some.inj h
      have e1 : q.1 = i := by simpa using hq
      rw [← e, ← e1]
      exact List.mem_cons_self
    | false =>
      rw [hq] at h
      exact List.mem_cons_of_mem _ (ih h)
theorem rvl_cat (E : Ev) (v : Value) : (rvl E v).category = v.category := by cases v <;> rfl
theorem rlo_at {E : Ev} {lo : Lo} {i nL : Nat} {v : Value} {ls : Array Slot} (hl : lv_has ls nL (rlo E lo)) (h : glo lo i = some v) : ls[i]? = some (.val (rvl E v)) := hl.2.2 (i, rvl E v) (List.mem_map.mpr ⟨(i, v), glo_mem h, rfl⟩)
theorem rlo_slo (E : Ev) (lo : Lo) (i : Nat) (v : Value) : (i, rvl E v) :: (rlo E lo).filter (fun q => !(q.1 == i) && !(q.1 + 1 == i && q.2.category == 2)) = rlo E (slo lo i v) := by
  unfold rlo slo
  rw [List.map_cons, List.filter_map]
  congr 2
  apply List.filter_congr
  intro q _
  simp [rvl_cat]
theorem rlo_slo2 (E : Ev) (lo : Lo) (i : Nat) (v : Value) : (i, rvl E v) :: (rlo E lo).filter (fun q => !(q.1 == i) && (!(q.1 == i + 1) && !(q.1 + 1 == i && q.2.category == 2))) = rlo E (slo2 lo i v) := by
  unfold rlo slo2
  rw [List.map_cons, List.filter_map]
  congr 2
  apply List.filter_congr
  intro q _
  simp [rvl_cat]
def flI (mt : Mt) (idx a b : Nat) : Bool := FL.any fun q => q.1 == mt.2.2.2.2 && (q.2.1 == idx && (q.2.2.1 == a && q.2.2.2 == b))
theorem flI_ok {mt : Mt} {idx a b : Nat} (h : flI mt idx a b = true) : FLP (mt.2.2.2.2, idx, a, b) := by
  unfold flI at h
  obtain ⟨q, hq, h⟩ := List.any_eq_true.mp h
  simp only [Bool.and_eq_true, beq_iff_eq] at h
  obtain ⟨h1, h2, h3, h4⟩ := h
  have : q = (mt.2.2.2.2, idx, a, b) := by rw [← h1, ← h2, ← h3, ← h4]
  rw [← this]
  exact FL_ok q hq
def lnI (i : Instr) : Nat := match i with
  | .bipush _ => 2 | .sipush _ => 3 | .iload _ => 2 | .lload _ => 2 | .aload _ => 2 | .istore _ => 2 | .lstore _ => 2 | .iinc _ _ => 3 | .goto _ => 3 | .getfield _ => 3 | .putfield _ => 3
  | _ => 1
def ck1 (mt : Mt) (pc : Nat) (it : It) : Bool := decide (decode mt.2.1 pc = .ok (it.1, lnI it.1)) && match it with
  | (.iconst n, _, _, v) => decide (Int32.ofInt n = v)
  | (.bipush n, _, _, v) => decide ((Int8.ofInt n).toInt32 = v)
  | (.sipush n, _, _, v) => decide ((Int16.ofInt n).toInt32 = v)
  | (.iload_n k, a, _, _) => (k : Nat) == a
  | (.iload k, a, _, _) => k == a
  | (.lload_n k, a, _, _) => (k : Nat) == a
  | (.lload k, a, _, _) => k == a
  | (.aload_n k, a, _, _) => (k : Nat) == a
  | (.aload k, a, _, _) => k == a
  | (.istore_n k, a, _, _) => (k : Nat) == a && decide (a < mt.2.2.1)
  | (.istore k, a, _, _) => k == a && decide (a < mt.2.2.1)
  | (.astore_n k, a, _, _) => (k : Nat) == a && decide (a < mt.2.2.1)
  | (.lstore_n k, a, _, _) => (k : Nat) == a && decide (a + 1 < mt.2.2.1)
  | (.lstore k, a, _, _) => k == a && decide (a + 1 < mt.2.2.1)
  | (.iinc k n, a, _, v) => k == a && (decide (a < mt.2.2.1) && decide (Int32.ofInt n = v))
  | (.goto off, a, _, _) => decide ((pc : Int) + off = (a : Int))
  | (.getfield idx, a, b, _) => flI mt idx a b
  | (.putfield idx, a, b, _) => flI mt idx a b && (decide (yN a b = .int) && !(tN a b).2.2.2)
  | (.iadd, _) => true | (.isub, _) => true | (.imul, _) => true | (.iand, _) => true | (.ior, _) => true | (.ixor, _) => true
  | (.ishl, _) => true | (.ishr, _) => true | (.iushr, _) => true | (.ladd, _) => true | (.lmul, _) => true | (.i2l, _) => true
  | (.lcmp, _) => true | (.dup, _) => true | (.dup2, _) => true | (.pop, _) => true
  | _ => false
def ex1 (it : It) (lo : Lo) (st : List Value) (w : Wd) : Option (Lo × List Value × Wd) := match it with
  | (.iconst _, _, _, v) => some (lo, .int v :: st, w)
  | (.bipush _, _, _, v) => some (lo, .int v :: st, w)
  | (.sipush _, _, _, v) => some (lo, .int v :: st, w)
  | (.iload_n _, a, _, _) => match glo lo a with | some (.int x) => some (lo, .int x :: st, w) | _ => none
  | (.iload _, a, _, _) => match glo lo a with | some (.int x) => some (lo, .int x :: st, w) | _ => none
  | (.lload_n _, a, _, _) => match glo lo a with | some (.long x) => some (lo, .long x :: st, w) | _ => none
  | (.lload _, a, _, _) => match glo lo a with | some (.long x) => some (lo, .long x :: st, w) | _ => none
  | (.aload_n _, a, _, _) => match glo lo a with | some (.ref x) => some (lo, .ref x :: st, w) | _ => none
  | (.aload _, a, _, _) => match glo lo a with | some (.ref x) => some (lo, .ref x :: st, w) | _ => none
  | (.istore_n _, a, _, _) => match st with | .int x :: r => some (slo lo a (.int x), r, w) | _ => none
  | (.istore _, a, _, _) => match st with | .int x :: r => some (slo lo a (.int x), r, w) | _ => none
  | (.astore_n _, a, _, _) => match st with | .ref x :: r => some (slo lo a (.ref x), r, w) | _ => none
  | (.lstore_n _, a, _, _) => match st with | .long x :: r => some (slo2 lo a (.long x), r, w) | _ => none
  | (.lstore _, a, _, _) => match st with | .long x :: r => some (slo2 lo a (.long x), r, w) | _ => none
  | (.iinc _ _, a, _, v) => match glo lo a with | some (.int x) => some (slo lo a (.int (x + v)), st, w) | _ => none
  | (.goto _, a, _, _) => some (lo, st, w)
  | (.getfield _, a, b, _) => match st with
    | .ref k :: r => match lkc w k with
      | some (.inl o) => bif o.1 == a then (match o.2[b]? with | some v => some (lo, v :: r, w) | none => none) else none
      | _ => none
    | _ => none
  | (.putfield _, a, b, _) => match st with
    | .int x :: .ref k :: r => match lkc w k with
      | some (.inl o) => bif o.1 == a && decide (b < o.2.length) then some (lo, r, stc w k (.inl (o.1, o.2.set b (.int x)))) else none
      | _ => none
    | _ => none
  | (.iadd, _) => match st with | .int y :: .int x :: r => some (lo, .int (x + y) :: r, w) | _ => none
  | (.isub, _) => match st with | .int y :: .int x :: r => some (lo, .int (x - y) :: r, w) | _ => none
  | (.imul, _) => match st with | .int y :: .int x :: r => some (lo, .int (x * y) :: r, w) | _ => none
  | (.iand, _) => match st with | .int y :: .int x :: r => some (lo, .int (x &&& y) :: r, w) | _ => none
  | (.ior, _) => match st with | .int y :: .int x :: r => some (lo, .int (x ||| y) :: r, w) | _ => none
  | (.ixor, _) => match st with | .int y :: .int x :: r => some (lo, .int (x ^^^ y) :: r, w) | _ => none
  | (.ishl, _) => match st with | .int y :: .int x :: r => some (lo, .int (x <<< (y &&& 31)) :: r, w) | _ => none
  | (.ishr, _) => match st with | .int y :: .int x :: r => some (lo, .int (x >>> (y &&& 31)) :: r, w) | _ => none
  | (.iushr, _) => match st with | .int y :: .int x :: r => some (lo, .int ((x.toUInt32 >>> (y.toUInt32 &&& Int32.toUInt32 31)).toInt32) :: r, w) | _ => none
  | (.ladd, _) => match st with | .long y :: .long x :: r => some (lo, .long (x + y) :: r, w) | _ => none
  | (.lmul, _) => match st with | .long y :: .long x :: r => some (lo, .long (x * y) :: r, w) | _ => none
  | (.i2l, _) => match st with | .int x :: r => some (lo, .long x.toInt64 :: r, w) | _ => none
  | (.lcmp, _) => match st with | .long y :: .long x :: r => some (lo, .int (lg_cmp x y) :: r, w) | _ => none
  | (.dup, _) => match st with | .int x :: r => some (lo, .int x :: .int x :: r, w) | .ref x :: r => some (lo, .ref x :: .ref x :: r, w) | _ => none
  | (.dup2, _) => match st with | .int y :: .ref x :: r => some (lo, .int y :: .ref x :: .int y :: .ref x :: r, w) | _ => none
  | (.pop, _) => match st with | .int x :: r => some (lo, r, w) | .ref x :: r => some (lo, r, w) | _ => none
  | _ => none
def nxp (pc : Nat) (it : It) : Nat := match it with
  | (.goto _, a, _, _) => a
  | (i, _, _, _) => pc + lnI i
def ck (mt : Mt) (pc : Nat) (is : List It) : Bool := match is with
  | [] => true
  | it :: r => ck1 mt pc it && ck mt (nxp pc it) r
def ex (is : List It) (lo : Lo) (st : List Value) (w : Wd) : Option (Lo × List Value × Wd) := match is with
  | [] => some (lo, st, w)
  | it :: r => match ex1 it lo st w with
    | some q => ex r q.1 q.2.1 q.2.2
    | none => none
def endp (pc : Nat) (is : List It) : Nat := match is with
  | [] => pc
  | it :: r => endp (nxp pc it) r
