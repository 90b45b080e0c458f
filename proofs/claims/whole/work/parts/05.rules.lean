section RULES
variable {d : Nat} {mt : Mt} {mc ms : Nat} {post : Option Value → Wd → Prop} {L : Nat} {xs : Nat → Int32} {g : Nat → Nat → Nat → Lo → List Value → Wd → Prop} {cs sl pc nx : Nat} {lo : Lo} {st : List Value} {w : Wd}

def jrem (x y : Int32) : Int32 := x - x / y * y
def ckn (mt : Mt) (pc : Nat) (i : Instr) (n nx : Nat) : Bool := decide (decode mt.2.1 pc = .ok (i, n)) && (pc + n == nx)
theorem ckn_1 {mt : Mt} {pc nx n : Nat} {i : Instr} (h : ckn mt pc i n nx = true) : decode mt.2.1 pc = .ok (i, n) ∧ pc + n = nx := by
  unfold ckn at h
  rw [Bool.and_eq_true] at h
  exact ⟨of_decide_eq_true h.1, eq_of_beq h.2⟩
def ckb (mt : Mt) (pc : Nat) (i : Instr) (off : Int) (tgt nx : Nat) : Bool := ckn mt pc i 3 nx && decide ((pc : Int) + off = (tgt : Int))
theorem ckb_1 {mt : Mt} {pc tgt nx : Nat} {off : Int} {i : Instr} (h : ckb mt pc i off tgt nx = true) : decode mt.2.1 pc = .ok (i, 3) ∧ pc + 3 = nx ∧ (pc : Int) + off = (tgt : Int) := by
  unfold ckb at h
  rw [Bool.and_eq_true] at h
  exact ⟨(ckn_1 h.1).1, (ckn_1 h.1).2, of_decide_eq_true h.2⟩
theorem Mach.icmp_eq (M : Mach d mt mc ms post L xs g) {x y : Int32} {off : Int} {tgt : Nat} (hck : ckb mt pc (.if_icmp .eq off) off tgt nx = true) (kt : x = y → g cs sl tgt lo st w) (kf : ¬ x = y → g cs sl nx lo st w) : g cs sl pc lo (.int y :: .int x :: st) w := by
  obtain ⟨p, l, e, R, s, m, args, below, meth, c, Q, E, D, cI, cZ, ⟨hx, hb, hml, hown, hts, hK, hB, hR, hnm, hret, hscr⟩, rfl⟩ := M
  intro H locs ls hH hS hl
  obtain ⟨h1, rfl, h3⟩ := ckb_1 hck
  exact lv_icmp_eq hx hb h1 h3 (fun z => kt z H locs ls hH hS hl) (fun z => kf z H locs ls hH hS hl)
theorem Mach.icmp_ne (M : Mach d mt mc ms post L xs g) {x y : Int32} {off : Int} {tgt : Nat} (hck : ckb mt pc (.if_icmp .ne off) off tgt nx = true) (kt : ¬ x = y → g cs sl tgt lo st w) (kf : x = y → g cs sl nx lo st w) : g cs sl pc lo (.int y :: .int x :: st) w := by
  obtain ⟨p, l, e, R, s, m, args, below, meth, c, Q, E, D, cI, cZ, ⟨hx, hb, hml, hown, hts, hK, hB, hR, hnm, hret, hscr⟩, rfl⟩ := M
  intro H locs ls hH hS hl
  obtain ⟨h1, rfl, h3⟩ := ckb_1 hck
  exact lv_icmp_ne hx hb h1 h3 (fun z => kt z H locs ls hH hS hl) (fun z => kf z H locs ls hH hS hl)
theorem Mach.icmp_lt (M : Mach d mt mc ms post L xs g) {x y : Int32} {off : Int} {tgt : Nat} (hck : ckb mt pc (.if_icmp .lt off) off tgt nx = true) (kt : x < y → g cs sl tgt lo st w) (kf : ¬ x < y → g cs sl nx lo st w) : g cs sl pc lo (.int y :: .int x :: st) w := by
  obtain ⟨p, l, e, R, s, m, args, below, meth, c, Q, E, D, cI, cZ, ⟨hx, hb, hml, hown, hts, hK, hB, hR, hnm, hret, hscr⟩, rfl⟩ := M
  intro H locs ls hH hS hl
  obtain ⟨h1, rfl, h3⟩ := ckb_1 hck
  exact lv_icmp_lt hx hb h1 h3 (fun z => kt z H locs ls hH hS hl) (fun z => kf z H locs ls hH hS hl)
theorem Mach.icmp_ge (M : Mach d mt mc ms post L xs g) {x y : Int32} {off : Int} {tgt : Nat} (hck : ckb mt pc (.if_icmp .ge off) off tgt nx = true) (kt : y ≤ x → g cs sl tgt lo st w) (kf : ¬ y ≤ x → g cs sl nx lo st w) : g cs sl pc lo (.int y :: .int x :: st) w := by
  obtain ⟨p, l, e, R, s, m, args, below, meth, c, Q, E, D, cI, cZ, ⟨hx, hb, hml, hown, hts, hK, hB, hR, hnm, hret, hscr⟩, rfl⟩ := M
  intro H locs ls hH hS hl
  obtain ⟨h1, rfl, h3⟩ := ckb_1 hck
  exact lv_icmp_ge hx hb h1 h3 (fun z => kt z H locs ls hH hS hl) (fun z => kf z H locs ls hH hS hl)
theorem Mach.icmp_gt (M : Mach d mt mc ms post L xs g) {x y : Int32} {off : Int} {tgt : Nat} (hck : ckb mt pc (.if_icmp .gt off) off tgt nx = true) (kt : y < x → g cs sl tgt lo st w) (kf : ¬ y < x → g cs sl nx lo st w) : g cs sl pc lo (.int y :: .int x :: st) w := by
  obtain ⟨p, l, e, R, s, m, args, below, meth, c, Q, E, D, cI, cZ, ⟨hx, hb, hml, hown, hts, hK, hB, hR, hnm, hret, hscr⟩, rfl⟩ := M
  intro H locs ls hH hS hl
  obtain ⟨h1, rfl, h3⟩ := ckb_1 hck
  exact lv_icmp_gt hx hb h1 h3 (fun z => kt z H locs ls hH hS hl) (fun z => kf z H locs ls hH hS hl)
theorem Mach.icmp_le (M : Mach d mt mc ms post L xs g) {x y : Int32} {off : Int} {tgt : Nat} (hck : ckb mt pc (.if_icmp .le off) off tgt nx = true) (kt : x ≤ y → g cs sl tgt lo st w) (kf : ¬ x ≤ y → g cs sl nx lo st w) : g cs sl pc lo (.int y :: .int x :: st) w := by
  obtain ⟨p, l, e, R, s, m, args, below, meth, c, Q, E, D, cI, cZ, ⟨hx, hb, hml, hown, hts, hK, hB, hR, hnm, hret, hscr⟩, rfl⟩ := M
  intro H locs ls hH hS hl
  obtain ⟨h1, rfl, h3⟩ := ckb_1 hck
  exact lv_icmp_le hx hb h1 h3 (fun z => kt z H locs ls hH hS hl) (fun z => kf z H locs ls hH hS hl)
theorem Mach.if_eq (M : Mach d mt mc ms post L xs g) {x : Int32} {off : Int} {tgt : Nat} (hck : ckb mt pc (.ifCond .eq off) off tgt nx = true) (kt : x = 0 → g cs sl tgt lo st w) (kf : ¬ x = 0 → g cs sl nx lo st w) : g cs sl pc lo (.int x :: st) w := by
  obtain ⟨p, l, e, R, s, m, args, below, meth, c, Q, E, D, cI, cZ, ⟨hx, hb, hml, hown, hts, hK, hB, hR, hnm, hret, hscr⟩, rfl⟩ := M
  intro H locs ls hH hS hl
  obtain ⟨h1, rfl, h3⟩ := ckb_1 hck
  exact lv_if_eq hx hb h1 h3 (fun z => kt z H locs ls hH hS hl) (fun z => kf z H locs ls hH hS hl)
theorem Mach.if_ne (M : Mach d mt mc ms post L xs g) {x : Int32} {off : Int} {tgt : Nat} (hck : ckb mt pc (.ifCond .ne off) off tgt nx = true) (kt : ¬ x = 0 → g cs sl tgt lo st w) (kf : x = 0 → g cs sl nx lo st w) : g cs sl pc lo (.int x :: st) w := by
  obtain ⟨p, l, e, R, s, m, args, below, meth, c, Q, E, D, cI, cZ, ⟨hx, hb, hml, hown, hts, hK, hB, hR, hnm, hret, hscr⟩, rfl⟩ := M
  intro H locs ls hH hS hl
  obtain ⟨h1, rfl, h3⟩ := ckb_1 hck
  exact lv_if_ne hx hb h1 h3 (fun z => kt z H locs ls hH hS hl) (fun z => kf z H locs ls hH hS hl)
theorem Mach.if_lt (M : Mach d mt mc ms post L xs g) {x : Int32} {off : Int} {tgt : Nat} (hck : ckb mt pc (.ifCond .lt off) off tgt nx = true) (kt : x < 0 → g cs sl tgt lo st w) (kf : ¬ x < 0 → g cs sl nx lo st w) : g cs sl pc lo (.int x :: st) w := by
  obtain ⟨p, l, e, R, s, m, args, below, meth, c, Q, E, D, cI, cZ, ⟨hx, hb, hml, hown, hts, hK, hB, hR, hnm, hret, hscr⟩, rfl⟩ := M
  intro H locs ls hH hS hl
  obtain ⟨h1, rfl, h3⟩ := ckb_1 hck
  exact lv_if_lt hx hb h1 h3 (fun z => kt z H locs ls hH hS hl) (fun z => kf z H locs ls hH hS hl)
theorem Mach.if_ge (M : Mach d mt mc ms post L xs g) {x : Int32} {off : Int} {tgt : Nat} (hck : ckb mt pc (.ifCond .ge off) off tgt nx = true) (kt : 0 ≤ x → g cs sl tgt lo st w) (kf : ¬ 0 ≤ x → g cs sl nx lo st w) : g cs sl pc lo (.int x :: st) w := by
  obtain ⟨p, l, e, R, s, m, args, below, meth, c, Q, E, D, cI, cZ, ⟨hx, hb, hml, hown, hts, hK, hB, hR, hnm, hret, hscr⟩, rfl⟩ := M
  intro H locs ls hH hS hl
  obtain ⟨h1, rfl, h3⟩ := ckb_1 hck
  exact lv_if_ge hx hb h1 h3 (fun z => kt z H locs ls hH hS hl) (fun z => kf z H locs ls hH hS hl)
theorem Mach.if_gt (M : Mach d mt mc ms post L xs g) {x : Int32} {off : Int} {tgt : Nat} (hck : ckb mt pc (.ifCond .gt off) off tgt nx = true) (kt : 0 < x → g cs sl tgt lo st w) (kf : ¬ 0 < x → g cs sl nx lo st w) : g cs sl pc lo (.int x :: st) w := by
  obtain ⟨p, l, e, R, s, m, args, below, meth, c, Q, E, D, cI, cZ, ⟨hx, hb, hml, hown, hts, hK, hB, hR, hnm, hret, hscr⟩, rfl⟩ := M
  intro H locs ls hH hS hl
  obtain ⟨h1, rfl, h3⟩ := ckb_1 hck
  exact lv_if_gt hx hb h1 h3 (fun z => kt z H locs ls hH hS hl) (fun z => kf z H locs ls hH hS hl)
theorem Mach.if_le (M : Mach d mt mc ms post L xs g) {x : Int32} {off : Int} {tgt : Nat} (hck : ckb mt pc (.ifCond .le off) off tgt nx = true) (kt : x ≤ 0 → g cs sl tgt lo st w) (kf : ¬ x ≤ 0 → g cs sl nx lo st w) : g cs sl pc lo (.int x :: st) w := by
  obtain ⟨p, l, e, R, s, m, args, below, meth, c, Q, E, D, cI, cZ, ⟨hx, hb, hml, hown, hts, hK, hB, hR, hnm, hret, hscr⟩, rfl⟩ := M
  intro H locs ls hH hS hl
  obtain ⟨h1, rfl, h3⟩ := ckb_1 hck
  exact lv_if_le hx hb h1 h3 (fun z => kt z H locs ls hH hS hl) (fun z => kf z H locs ls hH hS hl)
def ckt (mt : Mt) (pc : Nat) (dflt a b : Int) (offs : Array Int) (len : Nat) (tg : List Nat) (dt : Nat) : Bool := decide (decode mt.2.1 pc = .ok (.tableswitch dflt a b offs, len)) && (decide ((pc : Int) + dflt = (dt : Int)) && (decide (b = a + (tg.length : Int) - 1) && decide (offs.toList.map (fun z => (pc : Int) + z) = tg.map (fun z : Nat => (z : Int)))))
theorem Mach.tsw (M : Mach d mt mc ms post L xs g) {x : Int32} {dflt a b : Int} {offs : Array Int} {len : Nat} {tg : List Nat} {dt : Nat} (hck : ckt mt pc dflt a b offs len tg dt = true) (ki : ∀ (j t : Nat), tg[j]? = some t → x.toInt = a + (j : Int) → g cs sl t lo st w) (ko : (x.toInt < a ∨ a + (tg.length : Int) ≤ x.toInt) → g cs sl dt lo st w) : g cs sl pc lo (.int x :: st) w := by
  obtain ⟨p, l, e, R, s, m, args, below, meth, c, Q, E, D, cI, cZ, ⟨hx, hb, hml, hown, hts, hK, hB, hR, hnm, hret, hscr⟩, rfl⟩ := M
  intro H locs ls hH hS hl
  unfold ckt at hck
  rw [Bool.and_eq_true, Bool.and_eq_true, Bool.and_eq_true] at hck
  have h1 := of_decide_eq_true hck.1
  have h2 := of_decide_eq_true hck.2.1
  have h3 := of_decide_eq_true hck.2.2.1
  have h4 := of_decide_eq_true hck.2.2.2
  by_cases ho : x.toInt < a ∨ b < x.toInt
  · exact lv_tableOut hx hb h1 ho h2 (ko (by omega) H locs ls hH hS hl)
  · have hj : (x.toInt - a).toNat < tg.length := by omega
    have hl2 : offs.toList.length = tg.length := by
      have := congrArg List.length h4
      simpa using this
    have hoff : offs[(x.toInt - a).toNat]? = some offs.toList[(x.toInt - a).toNat] := by
      rw [← Array.getElem?_toList, List.getElem?_eq_getElem]
    have h5 : (pc : Int) + offs.toList[(x.toInt - a).toNat] = ((tg[(x.toInt - a).toNat] : Nat) : Int) := by
      have h6 : (offs.toList.map (fun z => (pc : Int) + z))[(x.toInt - a).toNat]? = (tg.map (fun z : Nat => (z : Int)))[(x.toInt - a).toNat]? := by rw [h4]
      rw [List.getElem?_map, List.getElem?_map, List.getElem?_eq_getElem (show (x.toInt - a).toNat < offs.toList.length by omega), List.getElem?_eq_getElem hj] at h6
      exact Option.some.inj h6
    exact lv_tableIn hx hb h1 (by omega) (by omega) hoff h5 (ki (x.toInt - a).toNat _ (List.getElem?_eq_getElem hj) (by omega) H locs ls hH hS hl)
theorem Mach.ald (M : Mach d mt mc ms post L xs g) {k n : Nat} {f : Nat → Int32} {i : Int32} {j : Nat} (hck : ckn mt pc .iaload 1 nx = true) (hlk : lkc w k = some (.inr (false, n, f))) (hi : i = nI j) (hj : j < n) (hn : n < 2147483648) (kk : g cs sl nx lo (.int (f j) :: st) w) : g cs sl pc lo (.int i :: .ref k :: st) w := by
  obtain ⟨p, l, e, R, s, m, args, below, meth, c, Q, E, D, cI, cZ, ⟨hx, hb, hml, hown, hts, hK, hB, hR, hnm, hret, hscr⟩, rfl⟩ := M
  intro H locs ls hH hS hl
  obtain ⟨h1, rfl⟩ := ckn_1 hck
  subst hi
  refine va_iald hx hb hK.1 hH.1 (psn w k) 0 (rwd_get hlk) rfl (vp_in_nI hj hn) h1 ?_
  rw [nI_clamp (by omega)]
  exact kk H locs ls hH hS hl
theorem Mach.zld (M : Mach d mt mc ms post L xs g) {k n : Nat} {f : Nat → Int32} {i : Int32} {j : Nat} (hck : ckn mt pc .baload 1 nx = true) (hlk : lkc w k = some (.inr (true, n, f))) (hi : i = nI j) (hj : j < n) (hn : n < 2147483648) (kk : g cs sl nx lo (.int (f j) :: st) w) : g cs sl pc lo (.int i :: .ref k :: st) w := by
  obtain ⟨p, l, e, R, s, m, args, below, meth, c, Q, E, D, cI, cZ, ⟨hx, hb, hml, hown, hts, hK, hB, hR, hnm, hret, hscr⟩, rfl⟩ := M
  intro H locs ls hH hS hl
  obtain ⟨h1, rfl⟩ := ckn_1 hck
  subst hi
  refine va_zald hx hb hK.1 hH.1 (psn w k) 1 (rwd_get hlk) rfl (vp_in_nI hj hn) h1 ?_
  rw [nI_clamp (by omega)]
  exact kk H locs ls hH hS hl
theorem Mach.alen (M : Mach d mt mc ms post L xs g) {k n : Nat} {f : Nat → Int32} {b : Bool} (hck : ckn mt pc .arraylength 1 nx = true) (hlk : lkc w k = some (.inr (b, n, f))) (kk : g cs sl nx lo (.int (nI n) :: st) w) : g cs sl pc lo (.ref k :: st) w := by
  obtain ⟨p, l, e, R, s, m, args, below, meth, c, Q, E, D, cI, cZ, ⟨hx, hb, hml, hown, hts, hK, hB, hR, hnm, hret, hscr⟩, rfl⟩ := M
  intro H locs ls hH hS hl
  obtain ⟨h1, rfl⟩ := ckn_1 hck
  cases b with
  | false => exact va_alen hx hb hK.1 hH.1 (psn w k) 0 (rwd_get hlk) rfl rfl h1 (kk H locs ls hH hS hl)
  | true => exact va_alen hx hb hK.1 hH.1 (psn w k) 1 (rwd_get hlk) rfl rfl h1 (kk H locs ls hH hS hl)
theorem Mach.ast (M : Mach d mt mc ms post L xs g) {k n : Nat} {f : Nat → Int32} {i x : Int32} {j : Nat} (hck : ckn mt pc .iastore 1 nx = true) (hlk : lkc w k = some (.inr (false, n, f))) (hi : i = nI j) (hj : j < n) (hn : n < 2147483648) (kk : g cs sl nx lo st (stc w k (.inr (false, n, upd f j x)))) : g cs sl pc lo (.int x :: .int i :: .ref k :: st) w := by
  obtain ⟨p, l, e, R, s, m, args, below, meth, c, Q, E, D, cI, cZ, ⟨hx, hb, hml, hown, hts, hK, hB, hR, hnm, hret, hscr⟩, rfl⟩ := M
  intro H locs ls hH hS hl
  obtain ⟨h1, rfl⟩ := ckn_1 hck
  subst hi
  have hset : (rwd E cI cZ w).set (psn w k) (adr E k, Sum.inl (cI, n, Sum.inl (upd f (nI j).toNatClampNeg x))) = rwd E cI cZ (stc w k (.inr (false, n, upd f j x))) := by
    rw [← rwd_set hlk, nI_clamp (by omega)]
    rfl
  have hlen := stc_len (w := w) (k := k) (c := .inr (false, n, upd f j x))
  refine mx_iast hx hb hK.1 hH.1 hH.2.1 hS (psn w k) 0 (rwd_get hlk) rfl (vp_in_nI hj hn) h1 (fun H1 locs1 hz1 hP1 hD1 hS1 => ?_)
  exact kk H1 locs1 ls ⟨hset ▸ hP1, hset ▸ hD1, by rw [hz1, hlen.1, hlen.2]; exact hH.2.2⟩ hS1 hl
theorem Mach.zst (M : Mach d mt mc ms post L xs g) {k n : Nat} {f : Nat → Int32} {i x : Int32} {j : Nat} (hck : ckn mt pc .bastore 1 nx = true) (hlk : lkc w k = some (.inr (true, n, f))) (hi : i = nI j) (hj : j < n) (hn : n < 2147483648) (hx01 : x = 0 ∨ x = 1) (kk : g cs sl nx lo st (stc w k (.inr (true, n, upd f j x)))) : g cs sl pc lo (.int x :: .int i :: .ref k :: st) w := by
  obtain ⟨p, l, e, R, s, m, args, below, meth, c, Q, E, D, cI, cZ, ⟨hx, hb, hml, hown, hts, hK, hB, hR, hnm, hret, hscr⟩, rfl⟩ := M
  intro H locs ls hH hS hl
  obtain ⟨h1, rfl⟩ := ckn_1 hck
  subst hi
  have hnr : vp_nar .boolean x = x := by rcases hx01 with rfl | rfl <;> rfl
  have hset : (rwd E cI cZ w).set (psn w k) (adr E k, Sum.inl (cZ, n, Sum.inl (upd f (nI j).toNatClampNeg (vp_nar .boolean x)))) = rwd E cI cZ (stc w k (.inr (true, n, upd f j x))) := by
    rw [← rwd_set hlk, nI_clamp (by omega), hnr]
    rfl
  have hlen := stc_len (w := w) (k := k) (c := .inr (true, n, upd f j x))
  refine mx_zast hx hb hK.1 hH.1 hH.2.1 hS (psn w k) 1 (rwd_get hlk) rfl (vp_in_nI hj hn) h1 (fun H1 locs1 hz1 hP1 hD1 hS1 => ?_)
  exact kk H1 locs1 ls ⟨hset ▸ hP1, hset ▸ hD1, by rw [hz1, hlen.1, hlen.2]; exact hH.2.2⟩ hS1 hl
theorem Mach.idv (M : Mach d mt mc ms post L xs g) {x y : Int32} (hck : ckn mt pc .idiv 1 nx = true) (hne : ¬ y = 0) (kk : g cs sl nx lo (.int (x / y) :: st) w) : g cs sl pc lo (.int y :: .int x :: st) w := by
  obtain ⟨p, l, e, R, s, m, args, below, meth, c, Q, E, D, cI, cZ, ⟨hx, hb, hml, hown, hts, hK, hB, hR, hnm, hret, hscr⟩, rfl⟩ := M
  intro H locs ls hH hS hl
  obtain ⟨h1, rfl⟩ := ckn_1 hck
  exact lv_idiv hx hb h1 hne (kk H locs ls hH hS hl)
theorem Mach.irm (M : Mach d mt mc ms post L xs g) {x y : Int32} (hck : ckn mt pc .irem 1 nx = true) (hne : ¬ y = 0) (kk : g cs sl nx lo (.int (jrem x y) :: st) w) : g cs sl pc lo (.int y :: .int x :: st) w := by
  obtain ⟨p, l, e, R, s, m, args, below, meth, c, Q, E, D, cI, cZ, ⟨hx, hb, hml, hown, hts, hK, hB, hR, hnm, hret, hscr⟩, rfl⟩ := M
  intro H locs ls hH hS hl
  obtain ⟨h1, rfl⟩ := ckn_1 hck
  exact lv_irem hx hb h1 hne (kk H locs ls hH hS hl)
theorem Mach.ldl (M : Mach d mt mc ms post L xs g) {v : Int64} {idx : Nat} (hck : ckn mt pc (.ldc2_w idx) 3 nx = true) (hw : Cond.constantLong (oN mt.2.2.2.2) idx v ∈ lw_good) (kk : g cs sl nx lo (.long v :: st) w) : g cs sl pc lo st w := by
  obtain ⟨p, l, e, R, s, m, args, below, meth, c, Q, E, D, cI, cZ, ⟨hx, hb, hml, hown, hts, hK, hB, hR, hnm, hret, hscr⟩, rfl⟩ := M
  intro H locs ls hH hS hl
  obtain ⟨h1, rfl⟩ := ckn_1 hck
  exact lv_ldc2 hx hb hown (hts _ hw) h1 (kk H locs ls hH hS hl)
theorem Mach.ldi (M : Mach d mt mc ms post L xs g) {v : Int32} {idx : Nat} (hck : ckn mt pc (.ldc_w idx) 3 nx = true) (hw : Cond.constant (oN mt.2.2.2.2) idx v ∈ lw_good) (kk : g cs sl nx lo (.int v :: st) w) : g cs sl pc lo st w := by
  obtain ⟨p, l, e, R, s, m, args, below, meth, c, Q, E, D, cI, cZ, ⟨hx, hb, hml, hown, hts, hK, hB, hR, hnm, hret, hscr⟩, rfl⟩ := M
  intro H locs ls hH hS hl
  obtain ⟨h1, rfl⟩ := ckn_1 hck
  exact lv_ldcw hx hb hown (hts _ hw) h1 (kk H locs ls hH hS hl)
theorem Mach.gord (M : Mach d mt mc ms post L xs g) {idx : Nat} (hck : ckn mt pc (.getstatic idx) 3 nx = true) (hw : Cond.fieldLink (oN mt.2.2.2.2) idx "DisturbedCells$Bench" "ORDER" "[I" ∈ lw_good) (kk : g cs sl nx lo (.ref 98 :: st) w) : g cs sl pc lo st w := by
  obtain ⟨p, l, e, R, s, m, args, below, meth, c, Q, E, D, cI, cZ, ⟨hx, hb, hml, hown, hts, hK, hB, hR, hnm, hret, hscr⟩, rfl⟩ := M
  intro H locs ls hH hS hl
  obtain ⟨h1, rfl⟩ := ckn_1 hck
  exact va_gets hx hb hK.2.2.1 hS hown (hts _ hw) (fun _ h => h) h1 (kk H locs ls hH hS hl)
theorem Mach.lord (M : Mach d mt mc ms post L xs g) (hck : ckn mt pc .arraylength 1 nx = true) (kk : g cs sl nx lo (.int 5 :: st) w) : g cs sl pc lo (.ref 98 :: st) w := by
  obtain ⟨p, l, e, R, s, m, args, below, meth, c, Q, E, D, cI, cZ, ⟨hx, hb, hml, hown, hts, hK, hB, hR, hnm, hret, hscr⟩, rfl⟩ := M
  intro H locs ls hH hS hl
  obtain ⟨h1, rfl⟩ := ckn_1 hck
  exact va_tlen hx hb hK.2.2.2 hS (v := 5) rfl h1 (kk H locs ls hH hS hl)
theorem Mach.aord (M : Mach d mt mc ms post L xs g) {i : Int32} {j : Nat} (hck : ckn mt pc .iaload 1 nx = true) (hi : i = nI j) (hj : j < 5) (kk : g cs sl nx lo (.int (ordF j) :: st) w) : g cs sl pc lo (.int i :: .ref 98 :: st) w := by
  obtain ⟨p, l, e, R, s, m, args, below, meth, c, Q, E, D, cI, cZ, ⟨hx, hb, hml, hown, hts, hK, hB, hR, hnm, hret, hscr⟩, rfl⟩ := M
  intro H locs ls hH hS hl
  obtain ⟨h1, rfl⟩ := ckn_1 hck
  subst hi
  exact va_ti hx hb hK.2.2.2 hS (vp_in_nI hj (by decide)) (v := .int (ordF j)) (by rw [nI_clamp (by omega)]) h1 (kk H locs ls hH hS hl)
theorem Mach.scl (M : Mach d mt mc ms post L xs g) (h0 : L ≤ 2048) (hck : ckn mt pc .arraylength 1 nx = true) (kk : g cs sl nx lo (.int (nI L) :: st) w) : g cs sl pc lo (.ref 99 :: st) w := by
  obtain ⟨p, l, e, R, s, m, args, below, meth, c, Q, E, D, cI, cZ, ⟨hx, hb, hml, hown, hts, hK, hB, hR, hnm, hret, hscr⟩, rfl⟩ := M
  intro H locs ls hH hS hl
  obtain ⟨h1, rfl⟩ := ckn_1 hck
  obtain ⟨hX, hbl, hbB⟩ := hscr.resolve_left (by omega)
  exact va_slen hx hb hX hbl (Nat.not_le.mpr hbB) hS h1 (kk H locs ls hH hS hl)
theorem Mach.sca (M : Mach d mt mc ms post L xs g) {i : Int32} {j : Nat} (hL : L ≤ 2048) (hck : ckn mt pc .iaload 1 nx = true) (hi : i = nI j) (hj : j < L) (kk : g cs sl nx lo (.int (xs j) :: st) w) : g cs sl pc lo (.int i :: .ref 99 :: st) w := by
  obtain ⟨p, l, e, R, s, m, args, below, meth, c, Q, E, D, cI, cZ, ⟨hx, hb, hml, hown, hts, hK, hB, hR, hnm, hret, hscr⟩, rfl⟩ := M
  intro H locs ls hH hS hl
  obtain ⟨h1, rfl⟩ := ckn_1 hck
  obtain ⟨hX, hbl, hbB⟩ := hscr.resolve_left (by omega)
  subst hi
  refine va_sld hx hb hX hbl (Nat.not_le.mpr hbB) hS (vp_in_nI hj (by omega)) h1 ?_
  rw [nI_clamp (by omega)]
  exact kk H locs ls hH hS hl
theorem Mach.putl (M : Mach d mt mc ms post L xs g) {idx a b k : Nat} {fs : List Value} {x : Int64} (hck : (ckn mt pc (.putfield idx) 3 nx && (flI mt idx a b && (decide (yN a b = .long) && !(tN a b).2.2.2))) = true) (hlk : lkc w k = some (.inl (a, fs))) (hbl : b < fs.length) (kk : g cs sl nx lo st (stc w k (.inl (a, fs.set b (Value.long x))))) : g cs sl pc lo (Value.long x :: .ref k :: st) w := by
  obtain ⟨p, l, e, R, s, m, args, below, meth, c, Q, E, D, cI, cZ, ⟨hx, hb, hml, hown, hts, hK, hB, hR, hnm, hret, hscr⟩, rfl⟩ := M
  intro H locs ls hH hS hl
  rw [Bool.and_eq_true, Bool.and_eq_true, Bool.and_eq_true] at hck
  obtain ⟨h1, rfl⟩ := ckn_1 hck.1
  obtain ⟨h5, hn, hlink⟩ := flI_ok hck.2.1
  have hyi := of_decide_eq_true hck.2.2.1
  have hfin : (tN a b).2.2.2 = false := by simpa using hck.2.2.2
  obtain ⟨hc, hin, hty, hnm2⟩ := cls_ok _ h5
  have he := rwd_get (E := E) (cI := cI) (cZ := cZ) hlk
  have hbl2 : b < (fs.map (rvl E)).length := by rw [List.length_map]; exact hbl
  have hset : (rwd E cI cZ w).set (psn w k) (adr E k, Sum.inr (a, (fs.map (rvl E)).set b (Value.long x))) = rwd E cI cZ (stc w k (.inl (a, fs.set b (Value.long x)))) := by
    rw [← rwd_set hlk]
    show _ = (rwd E cI cZ w).set (psn w k) (adr E k, Sum.inr (a, (fs.set b (Value.long x)).map (rvl E)))
    rw [List.map_set]
    rfl
  have hd2 : parseFieldDescriptor (tN a b).2.2.1 = some .long := by rw [hty b hn, hyi]
  have hlen := stc_len (w := w) (k := k) (c := .inl (a, fs.set b (Value.long x)))
  rcases hlink with hlink | hlink
  · refine mx_put hx hb hts hin (yN a) hty hnm2 hown hK.1 hH.1 hH.2.1 hS (psn w k) he hc b hn (hts _ hlink) (fun _ h => h) hfin hd2 rfl rfl hbl2 h1 (fun H1 locs1 hz1 hP1 hD1 hS1 => ?_)
    exact kk H1 locs1 ls ⟨hset ▸ hP1, hset ▸ hD1, by rw [hz1, hlen.1, hlen.2]; exact hH.2.2⟩ hS1 hl
  · refine mx_putN hx hb hts hin (yN a) hty hnm2 hown hK.1 hH.1 hH.2.1 hS (psn w k) he hc b hn (va_Nw.use rfl (hK.2.1 _ hlink)) (fun _ h => h) hfin hd2 rfl rfl hbl2 h1 (fun H1 locs1 hz1 hP1 hD1 hS1 => ?_)
    exact kk H1 locs1 ls ⟨hset ▸ hP1, hset ▸ hD1, by rw [hz1, hlen.1, hlen.2]; exact hH.2.2⟩ hS1 hl
theorem Mach.putz (M : Mach d mt mc ms post L xs g) {idx a b k : Nat} {fs : List Value} {x : Int32} (hck : (ckn mt pc (.putfield idx) 3 nx && (flI mt idx a b && (decide (yN a b = .boolean) && !(tN a b).2.2.2))) = true) (hlk : lkc w k = some (.inl (a, fs))) (hbl : b < fs.length) (hx01 : x = 0 ∨ x = 1) (kk : g cs sl nx lo st (stc w k (.inl (a, fs.set b (Value.int x))))) : g cs sl pc lo (Value.int x :: .ref k :: st) w := by
  obtain ⟨p, l, e, R, s, m, args, below, meth, c, Q, E, D, cI, cZ, ⟨hx, hb, hml, hown, hts, hK, hB, hR, hnm, hret, hscr⟩, rfl⟩ := M
  intro H locs ls hH hS hl
  rw [Bool.and_eq_true, Bool.and_eq_true, Bool.and_eq_true] at hck
  obtain ⟨h1, rfl⟩ := ckn_1 hck.1
  obtain ⟨h5, hn, hlink⟩ := flI_ok hck.2.1
  have hyi := of_decide_eq_true hck.2.2.1
  have hfin : (tN a b).2.2.2 = false := by simpa using hck.2.2.2
  obtain ⟨hc, hin, hty, hnm2⟩ := cls_ok _ h5
  have he := rwd_get (E := E) (cI := cI) (cZ := cZ) hlk
  have hbl2 : b < (fs.map (rvl E)).length := by rw [List.length_map]; exact hbl
  have hset : (rwd E cI cZ w).set (psn w k) (adr E k, Sum.inr (a, (fs.map (rvl E)).set b (Value.int x))) = rwd E cI cZ (stc w k (.inl (a, fs.set b (Value.int x)))) := by
    rw [← rwd_set hlk]
    show _ = (rwd E cI cZ w).set (psn w k) (adr E k, Sum.inr (a, (fs.set b (Value.int x)).map (rvl E)))
    rw [List.map_set]
    rfl
  have hd2 : parseFieldDescriptor (tN a b).2.2.1 = some .boolean := by rw [hty b hn, hyi]
  have hlen := stc_len (w := w) (k := k) (c := .inl (a, fs.set b (Value.int x)))
  rcases hlink with hlink | hlink
  · refine mx_put hx hb hts hin (yN a) hty hnm2 hown hK.1 hH.1 hH.2.1 hS (psn w k) he hc b hn (hts _ hlink) (fun _ h => h) hfin hd2 (by rcases hx01 with rfl | rfl <;> rfl) (by rcases hx01 with rfl | rfl <;> rfl) hbl2 h1 (fun H1 locs1 hz1 hP1 hD1 hS1 => ?_)
    exact kk H1 locs1 ls ⟨hset ▸ hP1, hset ▸ hD1, by rw [hz1, hlen.1, hlen.2]; exact hH.2.2⟩ hS1 hl
  · refine mx_putN hx hb hts hin (yN a) hty hnm2 hown hK.1 hH.1 hH.2.1 hS (psn w k) he hc b hn (va_Nw.use rfl (hK.2.1 _ hlink)) (fun _ h => h) hfin hd2 (by rcases hx01 with rfl | rfl <;> rfl) (by rcases hx01 with rfl | rfl <;> rfl) hbl2 h1 (fun H1 locs1 hz1 hP1 hD1 hS1 => ?_)
    exact kk H1 locs1 ls ⟨hset ▸ hP1, hset ▸ hD1, by rw [hz1, hlen.1, hlen.2]; exact hH.2.2⟩ hS1 hl
theorem Mach.putF (M : Mach d mt mc ms post L xs g) {idx b k r : Nat} {fs : List Value} {ty : FieldType} (hck : (ckn mt pc (.putfield idx) 3 nx && (flI mt idx mt.2.2.2.2 b && (decide (yN mt.2.2.2.2 b = ty) && (tN mt.2.2.2.2 b).2.2.2))) = true) (hw : Cond.fieldLink (oN mt.2.2.2.2) idx (tN mt.2.2.2.2 b).1 (tN mt.2.2.2.2 b).2.1 (tN mt.2.2.2.2 b).2.2.1 ∈ lw_good) (hini : mt.1.name = "<init>") (hdecl : (tN mt.2.2.2.2 b).1 = oN mt.2.2.2.2) (hnr : ∀ z : Nat, narrow ty (.ref z) = .ref z ∧ fits ty (.ref z) = true) (hlk : lkc w k = some (.inl (mt.2.2.2.2, fs))) (hbl : b < fs.length) (kk : g cs sl nx lo st (stc w k (.inl (mt.2.2.2.2, fs.set b (.ref r))))) : g cs sl pc lo (.ref r :: .ref k :: st) w := by
  obtain ⟨p, l, e, R, s, m, args, below, meth, c, Q, E, D, cI, cZ, ⟨hx, hb, hml, hown, hts, hK, hB, hR, hnm, hret, hscr⟩, rfl⟩ := M
  intro H locs ls hH hS hl
  rw [Bool.and_eq_true, Bool.and_eq_true, Bool.and_eq_true] at hck
  obtain ⟨h1, rfl⟩ := ckn_1 hck.1
  obtain ⟨h5, hn, hlink⟩ := flI_ok hck.2.1
  have hyi := of_decide_eq_true hck.2.2.1
  have hfin : (tN mt.2.2.2.2 b).2.2.2 = true := by simpa using hck.2.2.2
  obtain ⟨hc, hin, hty, hnm2⟩ := cls_ok _ h5
  have he := rwd_get (E := E) (cI := cI) (cZ := cZ) hlk
  have hbl2 : b < (fs.map (rvl E)).length := by rw [List.length_map]; exact hbl
  have hset : (rwd E cI cZ w).set (psn w k) (adr E k, Sum.inr (mt.2.2.2.2, (fs.map (rvl E)).set b (.ref (adr E r)))) = rwd E cI cZ (stc w k (.inl (mt.2.2.2.2, fs.set b (.ref r)))) := by
    rw [← rwd_set hlk]
    show _ = (rwd E cI cZ w).set (psn w k) (adr E k, Sum.inr (mt.2.2.2.2, (fs.set b (.ref r)).map (rvl E)))
    rw [List.map_set]
    rfl
  have hd2 : parseFieldDescriptor (tN mt.2.2.2.2 b).2.2.1 = some ty := by rw [hty b hn, hyi]
  have hlen := stc_len (w := w) (k := k) (c := .inl (mt.2.2.2.2, fs.set b (.ref r)))
  refine mx_putF hx hb hts hin (yN mt.2.2.2.2) hty hnm2 hown hK.1 hH.1 hH.2.1 hS (psn w k) he hc b hn (hts _ hw) (fun _ h => h) hfin ((hnm h5).trans hini) hdecl hd2 (hnr _).1 (hnr _).2 hbl2 h1 (fun H1 locs1 hz1 hP1 hD1 hS1 => ?_)
  exact kk H1 locs1 ls ⟨hset ▸ hP1, hset ▸ hD1, by rw [hz1, hlen.1, hlen.2]; exact hH.2.2⟩ hS1 hl
theorem Mach.reti (M : Mach d mt mc ms post L xs g) {v : Int32} (hck : (ckn mt pc .ireturn 1 nx && decide (mt.2.2.2.1 = some .int)) = true) (hp : post (some (.int v)) w) : g mc ms pc lo [.int v] w := by
  obtain ⟨p, l, e, R, s, m, args, below, meth, c, Q, E, D, cI, cZ, ⟨hx, hb, hml, hown, hts, hK, hB, hR, hnm, hret, hscr⟩, rfl⟩ := M
  intro H locs ls hH hS hl
  rw [Bool.and_eq_true] at hck
  exact hret pc (some (.int v)) w H locs ls (Or.inr (Or.inl ⟨v, rfl, Or.inl (of_decide_eq_true hck.2), (ckn_1 hck.1).1⟩)) hp hH hS
theorem Mach.retz (M : Mach d mt mc ms post L xs g) {v : Int32} (hck : (ckn mt pc .ireturn 1 nx && decide (mt.2.2.2.1 = some .boolean)) = true) (h01 : v = 0 ∨ v = 1) (hp : post (some (.int v)) w) : g mc ms pc lo [.int v] w := by
  obtain ⟨p, l, e, R, s, m, args, below, meth, c, Q, E, D, cI, cZ, ⟨hx, hb, hml, hown, hts, hK, hB, hR, hnm, hret, hscr⟩, rfl⟩ := M
  intro H locs ls hH hS hl
  rw [Bool.and_eq_true] at hck
  exact hret pc (some (.int v)) w H locs ls (Or.inr (Or.inl ⟨v, rfl, Or.inr ⟨of_decide_eq_true hck.2, h01⟩, (ckn_1 hck.1).1⟩)) hp hH hS
theorem Mach.retl (M : Mach d mt mc ms post L xs g) {v : Int64} (hck : (ckn mt pc .lreturn 1 nx && decide (mt.2.2.2.1 = some .long)) = true) (hp : post (some (.long v)) w) : g mc ms pc lo [.long v] w := by
  obtain ⟨p, l, e, R, s, m, args, below, meth, c, Q, E, D, cI, cZ, ⟨hx, hb, hml, hown, hts, hK, hB, hR, hnm, hret, hscr⟩, rfl⟩ := M
  intro H locs ls hH hS hl
  rw [Bool.and_eq_true] at hck
  exact hret pc (some (.long v)) w H locs ls (Or.inr (Or.inr ⟨v, rfl, of_decide_eq_true hck.2, (ckn_1 hck.1).1⟩)) hp hH hS
theorem Mach.retv (M : Mach d mt mc ms post L xs g) (hck : (ckn mt pc .return_ 1 nx && decide (mt.2.2.2.1 = none)) = true) (hp : post none w) : g mc ms pc lo [] w := by
  obtain ⟨p, l, e, R, s, m, args, below, meth, c, Q, E, D, cI, cZ, ⟨hx, hb, hml, hown, hts, hK, hB, hR, hnm, hret, hscr⟩, rfl⟩ := M
  intro H locs ls hH hS hl
  rw [Bool.and_eq_true] at hck
  exact hret pc none w H locs ls (Or.inl ⟨rfl, of_decide_eq_true hck.2, (ckn_1 hck.1).1⟩) hp hH hS
end RULES
