section CALLR
variable {d : Nat} {mt : Mt} {mc ms : Nat} {post : Option Value → Wd → Prop} {L : Nat} {xs : Nat → Int32} {g : Nat → Nat → Nat → Lo → List Value → Wd → Prop} {cs sl pc nx : Nat} {lo : Lo} {st : List Value} {w : Wd}

theorem toList_rvl (E : Ev) (r : Option Value) (st : List Value) : (r.map (rvl E)).toList ++ st.map (rvl E) = (r.toList ++ st).map (rvl E) := by cases r <;> rfl
theorem good_sub (x : Cond) (hx : x ∈ lw_good) : GoodIn lw_good (x :: lw_good) := fun w hw => (List.mem_cons.mp hw).elim (fun h => ⟨h ▸ hx, good_of_word (lw_gw (h ▸ hx))⟩) (fun h => ⟨h, good_of_word (lw_gw h)⟩)
/-- behind a call -/
theorem mx_go {p : Program} {l : Launch} {e : Env} {R : Room} {s : State} {m : MethodId} {args : Array Value} {below : List Frame} {meth : Method} {c : Code} {Q : State → Prop} {E : Ev} {D : va_G} {cI cZ : ClassId} {nL : Nat} {H : Heap} {locs : List Loc} {ls : Array Slot} {mc1 ms1 : Nat} {post1 : Option Value → Wd → Prop} {a : Array Value} {st0 : List Value}
    (hr : va_Run p l e R s m args below meth c H locs cs sl mc1 ms1 (F0 m pc ls st0) (st.map (rvl E)) (QcC E D cI cZ post1 a) (fun q => E.1 ≤ q)) (hS : va_S (fun q => E.1 ≤ q) s.heap H locs) (hl : lv_has ls nL (rlo E lo))
    (k : ∀ r w1, post1 r w1 → Gp p l e R s m args below meth c Q E D cI cZ nL (cs + mc1) (sl + ms1) (pc + 3) lo (r.toList ++ st) w1) : W p l e R s m args below meth c H locs cs sl Q (F0 m pc ls st0) := by
  intro T hT X
  obtain ⟨v, st₀, t, T', L1, h0, X', hL, e1, e2, ⟨⟨r, w1, hv, hp, hH1⟩, hz, hk⟩, hst⟩ := hr T hT X
  have hv : v = r.map (rvl E) := by injection hv
  subst hv
  rw [h0] at hz hk
  obtain ⟨t2, a1, b1⟩ := k r w1 hp T'.heap (locs ++ L1) ls (by rw [e1]; exact hH1) ⟨Nat.le_trans hS.1 (by rw [e1]; exact hz), fun q h1 h2 => by rw [e1, hk q (Nat.lt_of_lt_of_le h1 hS.1) h2]; exact hS.2.1 q h1 h2, fun q hq => by
      rcases List.mem_append.mp hq with h | h
      · exact hS.2.2 q h
      · exact hL q h⟩ hl T' rfl X'
  refine ⟨t2, hst t2 ?_, b1⟩
  rw [toList_rvl]
  exact a1
set_option maxHeartbeats 1000000 in
theorem Mach.callV (M : Mach d mt mc ms post L xs g) {mt1 : Mt} {d1 mc1 ms1 n k idx : Nat} {as fs : List Value} {post1 : Option Value → Wd → Prop} (ok : OkV mt1 n) (hlm : LkM (oN mt.2.2.2.2) idx mt1.1) (hC : CC d1 mt1 mc1 ms1 (.ref k :: as) w post1) (hck : ckn mt pc (.invokevirtual idx) 3 nx = true) (hdd : d1 < d) (hn : as.length = n) (hrest : (st.map fun v => v.category).sum ≤ 8) (hrc : lkc w k = some (.inl (mt1.2.2.2.2, fs))) (hci : mt1.2.2.2.2 < 5) (hroom : cs + mc1 ≤ mc ∧ sl + ms1 ≤ ms)
    (kk : ∀ r w1, post1 r w1 → g (cs + mc1) (sl + ms1) nx lo (r.toList ++ st) w1) : g cs sl pc lo (as.reverse ++ .ref k :: st) w := by
  obtain ⟨p, l, e, R, s, m, args, below, meth, c, Q, E, D, cI, cZ, ⟨hx, hb, hml, hown, hts, hK, hB, hR, hnm, hret, hscr⟩, rfl⟩ := M
  intro H locs ls hH hS hl
  obtain ⟨okb, oki, oks⟩ := ok
  obtain ⟨h1, rfl⟩ := ckn_1 hck
  have hlsz : ls.size = mt.2.2.1 := hl.1
  have hpre : ∀ U : State, U.heap = H → s.WarmedH U.vm → PcC E D cI cZ (.ref k :: as) w ((Value.ref k :: as).map (rvl E)).toArray U := fun U hU hW => ⟨rfl, by rw [hU]; exact hH, KK_moved hK hW (by rw [hU]; exact hS)⟩
  have hrm : ({ frames := d1, cells := mc1, slots := ms1, locals := 40 * d1 } : Room).frames + 1 ≤ R.frames ∧ 8 + (mt1.2.2.1 + 11) + ({ frames := d1, cells := mc1, slots := ms1, locals := 40 * d1 } : Room).locals ≤ R.locals := by
    have h9 := okb.2.2.2.1
    refine ⟨?_, ?_⟩
    · show d1 + 1 ≤ R.frames; omega
    · show 8 + (mt1.2.2.1 + 11) + 40 * d1 ≤ R.locals; omega
  have hf : cs + mc1 ≤ R.cells ∧ sl + ms1 ≤ R.slots := ⟨Nat.le_trans hroom.1 hR.2.2.1, Nat.le_trans hroom.2 hR.2.2.2⟩
  have hG := good_sub _ okb.1
  have hrs : 2 * (F0 m pc ls ((as.reverse ++ Value.ref k :: st).map (rvl E))).monitorRoom + ((st.map (rvl E)).map fun v => v.category).sum ≤ 8 := lv_room (m := m) (pc := pc) (ls := ls) (rest := (as.reverse ++ Value.ref k :: st).map (rvl E)) (by
    rw [List.map_map]
    rw [show ((fun v : Value => v.category) ∘ rvl E) = (fun v : Value => v.category) from funext (fun v => rvl_cat E v)]
    exact hrest)
  have hrcv : ∃ cellB : Cell, H[adr E k]? = some cellB ∧ cellB.vm.isStatics = false ∧ s.vm.findClass mt1.1.cls = some cellB.cls := by
    have h := va_recv hK.1 hH.1 (cls_ok _ hci).1 (rwd_get (E := E) (cI := cI) (cZ := cZ) hrc)
    rw [← okb.2.2.2.2.2]
    exact h
  have hstk : (F0 m pc ls ((as.reverse ++ Value.ref k :: st).map (rvl E))).stack = (as.map (rvl E)).reverse ++ .ref (adr E k) :: st.map (rvl E) := by
    show (as.reverse ++ Value.ref k :: st).map (rvl E) = _
    rw [List.map_append, List.map_reverse]
    rfl
  rcases hlm with hlm | hlm
  · refine mx_go (lo := lo) (nL := mt.2.2.1) (st := st) (a := (Value.ref (adr E k) :: as.map (rvl E)).toArray) (post1 := post1) (mc1 := mc1) (ms1 := ms1) (D := D) (cI := cI) (cZ := cZ) ?_ hS hl kk
    exact va_runV (nL := mt.2.2.1) (Ts := lw_good) (C := mt1.1.cls) (n := n) ⟨hx, hb, hml, hown, hts⟩ (hC l E D cI cZ) ⟨callB_of n hts hG rfl rfl rfl (hts _ okb.2.1) (hts _ hlm) okb.2.2.1 hrm, hts _ oki, hts _ oks⟩ ⟨PcC_blind E D cI cZ _ w, hrcv, hpre⟩ rfl (by rw [List.length_map]; exact hn) hlsz hstk hrs h1 hf
  · refine mx_go (lo := lo) (nL := mt.2.2.1) (st := st) (a := (Value.ref (adr E k) :: as.map (rvl E)).toArray) (post1 := post1) (mc1 := mc1) (ms1 := ms1) (D := D) (cI := cI) (cZ := cZ) ?_ hS hl kk
    exact va_runVN (nL := mt.2.2.1) (Ts := lw_good) (C := mt1.1.cls) (host := "DisturbedCells") (n := n) ⟨hx, hb, hml, hown, hts⟩ (hC l E D cI cZ) ⟨va_cnB n hts hG rfl rfl rfl (hK.2.1 _ hlm) (hts _ okb.2.1) okb.2.2.1 hrm, hts _ oki, hts _ oks⟩ ⟨PcC_blind E D cI cZ _ w, hrcv, hpre⟩ rfl (by rw [List.length_map]; exact hn) hlsz hstk hrs h1 hf
set_option maxHeartbeats 1000000 in
theorem Mach.callS (M : Mach d mt mc ms post L xs g) {mt1 : Mt} {d1 mc1 ms1 n idx : Nat} {as : List Value} {post1 : Option Value → Wd → Prop} (ok : OkS mt1 n) (hlm : LkM (oN mt.2.2.2.2) idx mt1.1) (hC : CC d1 mt1 mc1 ms1 as w post1) (hck : ckn mt pc (.invokestatic idx) 3 nx = true) (hdd : d1 < d) (hn : as.length = n) (hrest : (st.map fun v => v.category).sum ≤ 8) (hroom : cs + mc1 ≤ mc ∧ sl + ms1 ≤ ms)
    (kk : ∀ r w1, post1 r w1 → g (cs + mc1) (sl + ms1) nx lo (r.toList ++ st) w1) : g cs sl pc lo (as.reverse ++ st) w := by
  obtain ⟨p, l, e, R, s, m, args, below, meth, c, Q, E, D, cI, cZ, ⟨hx, hb, hml, hown, hts, hK, hB, hR, hnm, hret, hscr⟩, rfl⟩ := M
  intro H locs ls hH hS hl
  obtain ⟨okb, oks⟩ := ok
  obtain ⟨h1, rfl⟩ := ckn_1 hck
  have hlsz : ls.size = mt.2.2.1 := hl.1
  have hpre : ∀ U : State, U.heap = H → s.WarmedH U.vm → PcC E D cI cZ as w (as.map (rvl E)).toArray U := fun U hU hW => ⟨rfl, by rw [hU]; exact hH, KK_moved hK hW (by rw [hU]; exact hS)⟩
  have hrm : ({ frames := d1, cells := mc1, slots := ms1, locals := 40 * d1 } : Room).frames + 1 ≤ R.frames ∧ 8 + (mt1.2.2.1 + 11) + ({ frames := d1, cells := mc1, slots := ms1, locals := 40 * d1 } : Room).locals ≤ R.locals := by
    have h9 := okb.2.2.2.1
    refine ⟨?_, ?_⟩
    · show d1 + 1 ≤ R.frames; omega
    · show 8 + (mt1.2.2.1 + 11) + 40 * d1 ≤ R.locals; omega
  have hf : cs + mc1 ≤ R.cells ∧ sl + ms1 ≤ R.slots := ⟨Nat.le_trans hroom.1 hR.2.2.1, Nat.le_trans hroom.2 hR.2.2.2⟩
  have hG := good_sub _ okb.1
  have hrs : 2 * (F0 m pc ls ((as.reverse ++ st).map (rvl E))).monitorRoom + ((st.map (rvl E)).map fun v => v.category).sum ≤ 8 := lv_room (m := m) (pc := pc) (ls := ls) (rest := (as.reverse ++ st).map (rvl E)) (by
    rw [List.map_map]
    rw [show ((fun v : Value => v.category) ∘ rvl E) = (fun v : Value => v.category) from funext (fun v => rvl_cat E v)]
    exact hrest)
  have hstk : (F0 m pc ls ((as.reverse ++ st).map (rvl E))).stack = (as.map (rvl E)).reverse ++ st.map (rvl E) := by
    show (as.reverse ++ st).map (rvl E) = _
    rw [List.map_append, List.map_reverse]
  rcases hlm with hlm | hlm
  · refine mx_go (lo := lo) (nL := mt.2.2.1) (st := st) (a := (as.map (rvl E)).toArray) (post1 := post1) (mc1 := mc1) (ms1 := ms1) (D := D) (cI := cI) (cZ := cZ) ?_ hS hl kk
    exact va_runS (nL := mt.2.2.1) (Ts := lw_good) (n := n) ⟨hx, hb, hml, hown, hts⟩ (hC l E D cI cZ) ⟨callB_of n hts hG rfl rfl rfl (hts _ okb.2.1) (hts _ hlm) okb.2.2.1 hrm, hts _ oks⟩ ⟨PcC_blind E D cI cZ _ w, hpre⟩ rfl (by rw [List.length_map]; exact hn) hlsz hstk hrs h1 hf
  · refine mx_go (lo := lo) (nL := mt.2.2.1) (st := st) (a := (as.map (rvl E)).toArray) (post1 := post1) (mc1 := mc1) (ms1 := ms1) (D := D) (cI := cI) (cZ := cZ) ?_ hS hl kk
    exact va_runSN (nL := mt.2.2.1) (Ts := lw_good) (host := "DisturbedCells") (n := n) ⟨hx, hb, hml, hown, hts⟩ (hC l E D cI cZ) ⟨va_cnB n hts hG rfl rfl rfl (hK.2.1 _ hlm) (hts _ okb.2.1) okb.2.2.1 hrm, hts _ oks, trivial⟩ ⟨PcC_blind E D cI cZ _ w, hpre⟩ rfl (by rw [List.length_map]; exact hn) hlsz hstk hrs h1 hf
set_option maxHeartbeats 1000000 in
theorem Mach.callI (M : Mach d mt mc ms post L xs g) {mt1 : Mt} {d1 mc1 ms1 n k idx : Nat} {as : List Value} {post1 : Option Value → Wd → Prop} (ok : OkI mt1 n) (hrt : mt1.2.2.2.1 = none) (hlm : LkM (oN mt.2.2.2.2) idx mt1.1) (hC : CC d1 mt1 mc1 ms1 (.ref k :: as) w post1) (hck : ckn mt pc (.invokespecial idx) 3 nx = true) (hdd : d1 < d) (hn : as.length = n) (hrest : (st.map fun v => v.category).sum ≤ 8) (hroom : cs + mc1 ≤ mc ∧ sl + ms1 ≤ ms)
    (kk : ∀ r w1, post1 r w1 → g (cs + mc1) (sl + ms1) nx lo (r.toList ++ st) w1) : g cs sl pc lo (as.reverse ++ .ref k :: st) w := by
  obtain ⟨p, l, e, R, s, m, args, below, meth, c, Q, E, D, cI, cZ, ⟨hx, hb, hml, hown, hts, hK, hB, hR, hnm, hret, hscr⟩, rfl⟩ := M
  intro H locs ls hH hS hl
  obtain ⟨okb, oki, oks⟩ := ok
  obtain ⟨h1, rfl⟩ := ckn_1 hck
  have hlsz : ls.size = mt.2.2.1 := hl.1
  have hpre : ∀ U : State, U.heap = H → s.WarmedH U.vm → PcC E D cI cZ (.ref k :: as) w ((Value.ref k :: as).map (rvl E)).toArray U := fun U hU hW => ⟨rfl, by rw [hU]; exact hH, KK_moved hK hW (by rw [hU]; exact hS)⟩
  have hrm : ({ frames := d1, cells := mc1, slots := ms1, locals := 40 * d1 } : Room).frames + 1 ≤ R.frames ∧ 8 + (mt1.2.2.1 + 11) + ({ frames := d1, cells := mc1, slots := ms1, locals := 40 * d1 } : Room).locals ≤ R.locals := by
    have h9 := okb.2.2.2.1
    refine ⟨?_, ?_⟩
    · show d1 + 1 ≤ R.frames; omega
    · show 8 + (mt1.2.2.1 + 11) + 40 * d1 ≤ R.locals; omega
  have hf : cs + mc1 ≤ R.cells ∧ sl + ms1 ≤ R.slots := ⟨Nat.le_trans hroom.1 hR.2.2.1, Nat.le_trans hroom.2 hR.2.2.2⟩
  have hG := good_sub _ okb.1
  have hrs : 2 * (F0 m pc ls ((as.reverse ++ Value.ref k :: st).map (rvl E))).monitorRoom + ((st.map (rvl E)).map fun v => v.category).sum ≤ 8 := lv_room (m := m) (pc := pc) (ls := ls) (rest := (as.reverse ++ Value.ref k :: st).map (rvl E)) (by
    rw [List.map_map]
    rw [show ((fun v : Value => v.category) ∘ rvl E) = (fun v : Value => v.category) from funext (fun v => rvl_cat E v)]
    exact hrest)
  have hstk : (F0 m pc ls ((as.reverse ++ Value.ref k :: st).map (rvl E))).stack = (as.map (rvl E)).reverse ++ .ref (adr E k) :: st.map (rvl E) := by
    show (as.reverse ++ Value.ref k :: st).map (rvl E) = _
    rw [List.map_append, List.map_reverse]
    rfl
  have hM := hC l E D cI cZ
  rw [hrt] at hM hG
  rcases hlm with hlm | hlm
  · refine mx_go (lo := lo) (nL := mt.2.2.1) (st := st) (a := (Value.ref (adr E k) :: as.map (rvl E)).toArray) (post1 := post1) (mc1 := mc1) (ms1 := ms1) (D := D) (cI := cI) (cZ := cZ) ?_ hS hl kk
    exact va_runI (nL := mt.2.2.1) (Ts := lw_good) (n := n) ⟨hx, hb, hml, hown, hts⟩ hM ⟨callB_of n hts hG rfl rfl rfl (hts _ okb.2.1) (hts _ hlm) okb.2.2.1 hrm, oki, hts _ oks⟩ ⟨PcC_blind E D cI cZ _ w, hpre⟩ rfl (by rw [List.length_map]; exact hn) hlsz hstk hrs h1 hf
  · refine mx_go (lo := lo) (nL := mt.2.2.1) (st := st) (a := (Value.ref (adr E k) :: as.map (rvl E)).toArray) (post1 := post1) (mc1 := mc1) (ms1 := ms1) (D := D) (cI := cI) (cZ := cZ) ?_ hS hl kk
    exact va_runIN (nL := mt.2.2.1) (Ts := lw_good) (host := "DisturbedCells") (n := n) ⟨hx, hb, hml, hown, hts⟩ hM ⟨va_cnB n hts hG rfl rfl rfl (hK.2.1 _ hlm) (hts _ okb.2.1) okb.2.2.1 hrm, oki, hts _ oks⟩ ⟨PcC_blind E D cI cZ _ w, hpre⟩ rfl (by rw [List.length_map]; exact hn) hlsz hstk hrs h1 hf
end CALLR
