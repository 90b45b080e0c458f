section NEWR
variable {d : Nat} {mt : Mt} {mc ms : Nat} {post : Option Value → Wd → Prop} {L : Nat} {xs : Nat → Int32} {g : Nat → Nat → Nat → Lo → List Value → Wd → Prop} {cs sl pc nx : Nat} {lo : Lo} {st : List Value} {w : Wd}

def nwp (w : Wd) (k : Nat) (c : Cl) (w1 : Wd) : Prop := (w.1 = [] ∧ k = 100 + w.2.length ∧ w1 = (w.1, w.2 ++ [c])) ∨ (w.2.length = 19 ∧ w.1.length < 98 ∧ k = w.1.length ∧ w1 = (w.1 ++ [c], w.2))
theorem nwp_spec {E : Ev} {cI cZ : ClassId} {w w1 : Wd} {k : Nat} {c : Cl} (h : nwp w k c w1) : adr E k = E.1 + w.2.length + w.1.length ∧ rwd E cI cZ w1 = rwd E cI cZ w ++ [(adr E k, rcl E cI cZ c)] ∧ w1.2.length + w1.1.length = w.2.length + w.1.length + 1 := by
  rcases h with ⟨h1, rfl, rfl⟩ | ⟨h1, h2, rfl, rfl⟩
  · have ha : adr E (100 + w.2.length) = E.1 + w.2.length := by
      unfold adr
      rw [if_neg (by omega), if_neg (by omega), if_neg (by omega)]
      omega
    refine ⟨by rw [ha, h1]; rfl, ?_, by simp; omega⟩
    rw [ha]
    unfold rwd
    dsimp only
    rw [h1, List.mapIdx_concat]
    simp
  · have ha : adr E w.1.length = E.1 + 19 + w.1.length := by
      unfold adr
      rw [if_pos h2]
    refine ⟨by rw [ha, h1], ?_, by simp; omega⟩
    rw [ha]
    unfold rwd
    dsimp only
    rw [List.mapIdx_concat, List.append_assoc]
set_option maxHeartbeats 1000000 in
theorem Mach.new (M : Mach d mt mc ms post L xs g) {ci idx k : Nat} {fs : List Value} {w1 : Wd} (hck : ckn mt pc (.new idx) 3 nx = true) (hcl : Cond.classLink (oN mt.2.2.2.2) idx (oN ci) ∈ lw_good) (hins : Cond.instantiable (oN ci) (nN ci) ∈ lw_good) (hini : Cond.initialized (oN ci) ∈ lw_good) (hci : ci < 5) (hfs : ∀ j, j < nN ci → defaultValue (yN ci j) = vp_V fs j) (href : ∀ E, fs.map (rvl E) = fs) (hw : nwp w k (.inl (ci, fs)) w1) (hr1 : cs + 1 ≤ mc) (hr2 : sl + nN ci ≤ ms) (kk : g (cs + 1) (sl + nN ci) nx lo (.ref k :: st) w1) : g cs sl pc lo st w := by
  obtain ⟨p, l, e, R, s, m, args, below, meth, c, Q, E, D, cI, cZ, ⟨hx, hb, hml, hown, hts, hK, hB, hR, hnm, hret, hscr⟩, rfl⟩ := M
  intro H locs ls hH hS hl
  obtain ⟨h1, rfl⟩ := ckn_1 hck
  obtain ⟨hc, hin, hty, hnm2⟩ := cls_ok _ hci
  obtain ⟨hP, hD, hsz⟩ := hH
  obtain ⟨ha, hrw, hle⟩ := nwp_spec (E := E) (cI := cI) (cZ := cZ) hw
  have hKn := hK.1.1 ci _ hc
  refine W.newcK hx hb hown (hts _ hcl) (hts _ hins) (hts _ hini) rfl h1 (Nat.le_trans hr1 hR.2.2.1) (Nat.le_trans hr2 hR.2.2.2) hKn.2.1 rfl fun H1 kC hkC e1 z1 o1 => ?_
  have hk1 : ∀ (k : Nat) (x : Nat × va_E), (rwd E cI cZ w)[k]? = some x → H1[x.1]? = H[x.1]? := fun k x hx => o1 x.1 ((hP k x hx).lt)
  have hak : adr E k = H.size := by rw [ha, hsz]
  have hP1 : va_P D vwCl (rwd E cI cZ w1) H1 := by
    rw [hrw]
    refine (hP.kept hk1).app (fun k2 x hx2 => ?_)
    have hz : k2 < 1 := (List.getElem?_eq_some_iff.mp hx2).1
    rw [show k2 = 0 by omega] at hx2
    cases hx2
    show ∃ r : vw_C, _
    refine ⟨_, hc, ?_⟩
    show t_OB (adr E k) _ _ _ H1 (vp_V (fs.map (rvl E)))
    rw [href, hak]
    exact (u_born (yN ci) hts hin hKn hkC e1 hty).to hfs
  have hD1 : va_D (fun q => E.1 ≤ q) (rwd E cI cZ w1) := by
    rw [hrw]
    exact hD.push hP hak (by show E.1 ≤ adr E k; omega)
  have h3 := kk H1 locs ls ⟨hP1, hD1, by omega⟩ ⟨Nat.le_trans hS.1 (by omega), fun x h1 h2 => (o1 x (Nat.lt_of_lt_of_le h1 hS.1)).trans (hS.2.1 x h1 h2), hS.2.2⟩ hl
  have h4 : (Value.ref k :: st).map (rvl E) = Value.ref H.size :: st.map (rvl E) := by
    rw [← hak]
    rfl
  rw [h4] at h3
  exact h3
set_option maxHeartbeats 1000000 in
theorem Mach.newA (M : Mach d mt mc ms post L xs g) {b : Bool} {at1 : ArrayType} {k n : Nat} {w1 : Wd} (hck : ckn mt pc (.newarray at1) 2 nx = true) (hb1 : (b = false ∧ at1 = .int) ∨ (b = true ∧ at1 = .boolean)) (hn : n < 1000) (hw : nwp w k (.inr (b, n, fun _ => 0)) w1) (harr : Cond.arrayClass (newarray.typeOf at1) ∈ lw_good) (hr1 : cs + 1 ≤ mc) (hr2 : sl + n ≤ ms) (kk : g (cs + 1) (sl + n) nx lo (.ref k :: st) w1) : g cs sl pc lo (.int (nI n) :: st) w := by
  obtain ⟨p, l, e, R, s, m, args, below, meth, c, Q, E, D, cI, cZ, ⟨hx, hb, hml, hown, hts, hK, hB, hR, hnm, hret, hscr⟩, rfl⟩ := M
  intro H locs ls hH hS hl
  obtain ⟨h1, rfl⟩ := ckn_1 hck
  obtain ⟨hP, hD, hsz⟩ := hH
  obtain ⟨ha, hrw, hle⟩ := nwp_spec (E := E) (cI := cI) (cZ := cZ) hw
  have hak : adr E k = H.size := by rw [ha, hsz]
  have hby : n * componentBytes (newarray.typeOf at1) ≤ 536870912 := by
    rcases hb1 with ⟨_, rfl⟩ | ⟨_, rfl⟩
    · show n * 4 ≤ 536870912; omega
    · show n * 1 ≤ 536870912; omega
  refine va_newaK hx hb (hts _ harr) rfl h1 rfl (nI_pos (by omega)) (nI_clamp (by omega)) hby (Nat.le_trans hr1 hR.2.2.1) (Nat.le_trans hr2 hR.2.2.2) rfl fun H1 cA e1 z1 o1 hAr hNm => ?_
  have hk1 : ∀ (k : Nat) (x : Nat × va_E), (rwd E cI cZ w)[k]? = some x → H1[x.1]? = H[x.1]? := fun k x hx => o1 x.1 ((hP k x hx).lt)
  have hcA : (bif b then cZ else cI) = cA := by
    rcases hb1 with ⟨rfl, rfl⟩ | ⟨rfl, rfl⟩
    · exact Option.some.inj ((hK.1.2 0 (cI, .int) rfl).2.symm.trans hNm)
    · exact Option.some.inj ((hK.1.2 1 (cZ, .boolean) rfl).2.symm.trans hNm)
  have hP1 : va_P D vwCl (rwd E cI cZ w1) H1 := by
    rw [hrw]
    refine (hP.kept hk1).app (fun k2 x hx2 => ?_)
    have hz : k2 < 1 := (List.getElem?_eq_some_iff.mp hx2).1
    rw [show k2 = 0 by omega] at hx2
    cases hx2
    show H1[adr E k]? = some (vp_cell (bif b then cZ else cI) (n, .inl (fun _ => 0)))
    rw [hak, e1, hcA]
    rcases hb1 with ⟨rfl, rfl⟩ | ⟨rfl, rfl⟩ <;> rfl
  have hD1 : va_D (fun q => E.1 ≤ q) (rwd E cI cZ w1) := by
    rw [hrw]
    exact hD.push hP hak (by show E.1 ≤ adr E k; omega)
  have h3 := kk H1 locs ls ⟨hP1, hD1, by omega⟩ ⟨Nat.le_trans hS.1 (by omega), fun x h1 h2 => (o1 x (Nat.lt_of_lt_of_le h1 hS.1)).trans (hS.2.1 x h1 h2), hS.2.2⟩ hl
  have h4 : (Value.ref k :: st).map (rvl E) = Value.ref H.size :: st.map (rvl E) := by
    rw [← hak]
    rfl
  rw [h4] at h3
  exact h3
theorem Mach.obj (M : Mach d mt mc ms post L xs g) {idx k : Nat} (hck : ckn mt pc (.invokespecial idx) 3 nx = true) (hlm : Cond.methodLink (oN mt.2.2.2.2) idx objectInit ∈ lw_good) (hin : Cond.instanceMethod objectInit ∈ lw_good) (hco : Cond.code objectInit ⟨#[0xb1]⟩ 1 none ∈ lw_good) (h1d : 1 ≤ d) (hst : (st.map fun v => v.category).sum ≤ 8) (kk : g cs sl nx lo st w) : g cs sl pc lo (.ref k :: st) w := by
  obtain ⟨p, l, e, R, s, m, args, below, meth, c, Q, E, D, cI, cZ, ⟨hx, hb, hml, hown, hts, hK, hB, hR, hnm, hret, hscr⟩, rfl⟩ := M
  intro H locs ls hH hS hl
  obtain ⟨h1, rfl⟩ := ckn_1 hck
  have hcat : ((st.map (rvl E)).map fun v => v.category).sum ≤ 8 := by
    rw [List.map_map, show ((fun v : Value => v.category) ∘ rvl E) = (fun v : Value => v.category) from funext (fun v => rvl_cat E v)]
    exact hst
  have hrs := lv_room (m := m) (pc := pc) (ls := ls) (rest := (Value.ref k :: st).map (rvl E)) hcat
  refine W.objInit hx hb hown (hts _ hlm) (hts _ hin) (hts _ hco) rfl (by rw [hml]; exact hl.1) rfl h1 (by omega) (by omega) ?_
  exact kk H locs ls hH hS hl
theorem Mach.mmax (M : Mach d mt mc ms post L xs g) {idx : Nat} {x y : Int32} (hck : ckn mt pc (.invokestatic idx) 3 nx = true) (hlm : Cond.methodLink (oN mt.2.2.2.2) idx Lib.Math.max.name ∈ lw_good) (hs : Cond.static Lib.Math.max.name ∈ lw_good) (hi : Cond.initialized "java/lang/Math" ∈ lw_good) (hco : Cond.code Lib.Math.max.name Lib.Math.max.code 2 (some .int) ∈ lw_good) (h1d : 1 ≤ d) (hst : (st.map fun v => v.category).sum ≤ 8) (hc : cs ≤ mc) (hs2 : sl ≤ ms) (kk : g cs sl nx lo (.int (if x < y then y else x) :: st) w) : g cs sl pc lo (.int y :: .int x :: st) w := by
  obtain ⟨p, l, e, R, s, m, args, below, meth, c, Q, E, D, cI, cZ, ⟨hx, hb, hml, hown, hts, hK, hB, hR, hnm, hret, hscr⟩, rfl⟩ := M
  intro H locs ls hH hS hl
  obtain ⟨h1, rfl⟩ := ckn_1 hck
  have hcat : ((st.map (rvl E)).map fun v => v.category).sum ≤ 8 := by
    rw [List.map_map, show ((fun v : Value => v.category) ∘ rvl E) = (fun v : Value => v.category) from funext (fun v => rvl_cat E v)]
    exact hst
  refine va_mmax hx hb (by rw [hml]; exact hl.1.symm) hown (hts _ hlm) (hts _ hs) (hts _ hi) (hts _ hco) (by omega) (by omega) (Nat.le_trans hc hR.2.2.1) (Nat.le_trans hs2 hR.2.2.2) h1 ?_
  exact kk H locs ls hH hS hl
theorem Mach.mmin (M : Mach d mt mc ms post L xs g) {idx : Nat} {x y : Int32} (hck : ckn mt pc (.invokestatic idx) 3 nx = true) (hlm : Cond.methodLink (oN mt.2.2.2.2) idx Lib.Math.min.name ∈ lw_good) (hs : Cond.static Lib.Math.min.name ∈ lw_good) (hi : Cond.initialized "java/lang/Math" ∈ lw_good) (hco : Cond.code Lib.Math.min.name Lib.Math.min.code 2 (some .int) ∈ lw_good) (h1d : 1 ≤ d) (hst : (st.map fun v => v.category).sum ≤ 8) (hc : cs ≤ mc) (hs2 : sl ≤ ms) (kk : g cs sl nx lo (.int (if y < x then y else x) :: st) w) : g cs sl pc lo (.int y :: .int x :: st) w := by
  obtain ⟨p, l, e, R, s, m, args, below, meth, c, Q, E, D, cI, cZ, ⟨hx, hb, hml, hown, hts, hK, hB, hR, hnm, hret, hscr⟩, rfl⟩ := M
  intro H locs ls hH hS hl
  obtain ⟨h1, rfl⟩ := ckn_1 hck
  have hcat : ((st.map (rvl E)).map fun v => v.category).sum ≤ 8 := by
    rw [List.map_map, show ((fun v : Value => v.category) ∘ rvl E) = (fun v : Value => v.category) from funext (fun v => rvl_cat E v)]
    exact hst
  refine va_mmin hx hb (by rw [hml]; exact hl.1.symm) hown (hts _ hlm) (hts _ hs) (hts _ hi) (hts _ hco) (by omega) (by omega) (Nat.le_trans hc hR.2.2.1) (Nat.le_trans hs2 hR.2.2.2) h1 ?_
  exact kk H locs ls hH hS hl
end NEWR
