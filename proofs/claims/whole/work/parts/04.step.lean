section PUTS
variable {p : Program} {l : Launch} {e : Env} {R : Room} {s : State} {m : MethodId} {args : Array Value} {below : List Frame} {meth : Method} {c : Code} {H : Heap} {locs : List Loc} {cells slots : Nat} {Q : State → Prop}
variable {cc : ByteArray} {pc : Nat} {ls : Array Slot} {rest : List Value} {D : va_G} {cl : List vw_C} {A : Nat → Prop} {a : Nat} {tys : List (ClassId × FieldType)} {ws : va_W} {H0 : Heap}
theorem mx_put (hexec : p.tables.exec = Jvm.exec) (hb : c.code = cc) {own ref C : String} {T : u_T} {N ci index : Nat} {Ts : List Cond} (hts : ∀ w ∈ Ts, w.before args s = true) (hin : ∀ w ∈ u_ws C T N, w ∈ Ts) (ty0 : Nat → FieldType) (hty : ∀ k, k < N → parseFieldDescriptor (T k).2.2.1 = some (ty0 k)) (hnm : ∀ a, a < N → ∀ b, b < N → a ≠ b → (T a).2.1 ≠ (T b).2.1) (hown : s.vm.findClass own = some m.cls) (hK : va_K D cl tys s) (hP : va_P D cl ws H) (hD : va_D A ws) (hS0 : va_S A H0 H locs) (q0 : Nat) {fs : List Value} (he : ws[q0]? = some (a, .inr (ci, fs))) (hc : cl[ci]? = some (C, T, N)) (k : Nat) (hk : k < N) (hlink : (Cond.fieldLink own index ref (T k).2.1 (T k).2.2.1).before args s = true) (hsame : ∀ x, s.fieldFound? (T k).1 (T k).2.1 (T k).2.2.1 = some x → s.fieldFound? ref (T k).2.1 (T k).2.2.1 = some x) (hfin : (T k).2.2.2 = false) {ty : FieldType} {v : Value} (hd : parseFieldDescriptor (T k).2.2.1 = some ty) (hn : narrow ty v = v) (hfit : fits ty v = true) (hl : k < fs.length)
    (hdg : decode cc pc = .ok (.putfield index, 3)) (kk : ∀ (H1 : Heap) (locs1 : List Loc), H1.size = H.size → va_P D cl (ws.set q0 (a, .inr (ci, fs.set k v))) H1 → va_D A (ws.set q0 (a, .inr (ci, fs.set k v))) → va_S A H0 H1 locs1 → W p l e R s m args below meth c H1 locs1 cells slots Q (F0 m (pc + 3) ls rest)) : W p l e R s m args below meth c H locs cells slots Q (F0 m pc ls (v :: .ref a :: rest)) := by
  have hap := va_apart (own := own) hts hin ty0 hty hnm hK hc
  obtain ⟨r, h1, cell, q1, q2, q3, q4⟩ := hP q0 _ he
  cases Option.some.inj (h1.symm.trans hc)
  obtain ⟨hS, hfc, kC, hkC, hkind⟩ := hK.1 ci _ hc
  obtain ⟨cf, kf, fi, f, hi, hsl⟩ := hS k hk
  have hlay := hts _ (hin _ (u_in_lay hk))
  unfold u_lay at hlay
  rw [if_neg (by rw [hfin]; decide)] at hlay
  have hst := (u_facts hfc hkC (u_lays hts hin hk) hi).1
  have h6 := u_store hfc hkC hkind hlay hi hd hn hfit
  refine W.putK hexec hb (f := f) ⟨hown, hlink, ⟨_, _, _, hsame _ hi⟩, hst⟩ (by rw [q2]; exact h6) q1 q3 (by rw [hsl]; exact k2_hasslot (q4 k hk)) rfl rfl hdg fun H' e1 e2 e3 => ?_
  rw [hsl] at e1 ⊢
  exact kk H' _ e2 (hP.set hD he ⟨_, hc, t_OB.to (V := updV (vp_V fs) k v) ⟨_, e1, q2, q3, t_set q4 hap hk v⟩ (fun j _ => vp_updV_set hl v j)⟩ e3) (hD.set he) (hS0.put e2 e3 (hD.2 q0 _ he))
theorem mx_putN (hexec : p.tables.exec = Jvm.exec) (hb : c.code = cc) {host : String} {own ref C : String} {T : u_T} {N ci index : Nat} {Ts : List Cond} (hts : ∀ w ∈ Ts, w.before args s = true) (hin : ∀ w ∈ u_ws C T N, w ∈ Ts) (ty0 : Nat → FieldType) (hty : ∀ k, k < N → parseFieldDescriptor (T k).2.2.1 = some (ty0 k)) (hnm : ∀ a, a < N → ∀ b, b < N → a ≠ b → (T a).2.1 ≠ (T b).2.1) (hown : s.vm.findClass own = some m.cls) (hK : va_K D cl tys s) (hP : va_P D cl ws H) (hD : va_D A ws) (hS0 : va_S A H0 H locs) (q0 : Nat) {fs : List Value} (he : ws[q0]? = some (a, .inr (ci, fs))) (hc : cl[ci]? = some (C, T, N)) (k : Nat) (hk : k < N) (hlink : (Cond.fieldLinkNest own index ref (T k).2.1 (T k).2.2.1 host).before args s = true) (hsame : ∀ x, s.fieldFound? (T k).1 (T k).2.1 (T k).2.2.1 = some x → s.fieldFound? ref (T k).2.1 (T k).2.2.1 = some x) (hfin : (T k).2.2.2 = false) {ty : FieldType} {v : Value} (hd : parseFieldDescriptor (T k).2.2.1 = some ty) (hn : narrow ty v = v) (hfit : fits ty v = true) (hl : k < fs.length)
    (hdg : decode cc pc = .ok (.putfield index, 3)) (kk : ∀ (H1 : Heap) (locs1 : List Loc), H1.size = H.size → va_P D cl (ws.set q0 (a, .inr (ci, fs.set k v))) H1 → va_D A (ws.set q0 (a, .inr (ci, fs.set k v))) → va_S A H0 H1 locs1 → W p l e R s m args below meth c H1 locs1 cells slots Q (F0 m (pc + 3) ls rest)) : W p l e R s m args below meth c H locs cells slots Q (F0 m pc ls (v :: .ref a :: rest)) := by
  have hap := va_apart (own := own) hts hin ty0 hty hnm hK hc
  obtain ⟨r, h1, cell, q1, q2, q3, q4⟩ := hP q0 _ he
  cases Option.some.inj (h1.symm.trans hc)
  obtain ⟨hS, hfc, kC, hkC, hkind⟩ := hK.1 ci _ hc
  obtain ⟨cf, kf, fi, f, hi, hsl⟩ := hS k hk
  have hlay := hts _ (hin _ (u_in_lay hk))
  unfold u_lay at hlay
  rw [if_neg (by rw [hfin]; decide)] at hlay
  have hst := (u_facts hfc hkC (u_lays hts hin hk) hi).1
  have h6 := u_store hfc hkC hkind hlay hi hd hn hfit
  refine va_WputK hexec hb (f := f) hown hlink (hsame _ hi) hst (by rw [q2]; exact h6) q1 q3 (by rw [hsl]; exact k2_hasslot (q4 k hk)) rfl rfl hdg fun H' e1 e2 e3 => ?_
  rw [hsl] at e1 ⊢
  exact kk H' _ e2 (hP.set hD he ⟨_, hc, t_OB.to (V := updV (vp_V fs) k v) ⟨_, e1, q2, q3, t_set q4 hap hk v⟩ (fun j _ => vp_updV_set hl v j)⟩ e3) (hD.set he) (hS0.put e2 e3 (hD.2 q0 _ he))
theorem mx_putF (hexec : p.tables.exec = Jvm.exec) (hb : c.code = cc) {own ref C : String} {T : u_T} {N ci index : Nat} {Ts : List Cond} (hts : ∀ w ∈ Ts, w.before args s = true) (hin : ∀ w ∈ u_ws C T N, w ∈ Ts) (ty0 : Nat → FieldType) (hty : ∀ k, k < N → parseFieldDescriptor (T k).2.2.1 = some (ty0 k)) (hnm : ∀ a, a < N → ∀ b, b < N → a ≠ b → (T a).2.1 ≠ (T b).2.1) (hown : s.vm.findClass own = some m.cls) (hK : va_K D cl tys s) (hP : va_P D cl ws H) (hD : va_D A ws) (hS0 : va_S A H0 H locs) (q0 : Nat) {fs : List Value} (he : ws[q0]? = some (a, .inr (ci, fs))) (hc : cl[ci]? = some (C, T, N)) (k : Nat) (hk : k < N) (hlink : (Cond.fieldLink own index ref (T k).2.1 (T k).2.2.1).before args s = true) (hsame : ∀ x, s.fieldFound? (T k).1 (T k).2.1 (T k).2.2.1 = some x → s.fieldFound? ref (T k).2.1 (T k).2.2.1 = some x) (hfin : (T k).2.2.2 = true) (hin2 : meth.name = "<init>") (hdecl : (T k).1 = own) {ty : FieldType} {v : Value} (hd : parseFieldDescriptor (T k).2.2.1 = some ty) (hn : narrow ty v = v) (hfit : fits ty v = true) (hl : k < fs.length)
    (hdg : decode cc pc = .ok (.putfield index, 3)) (kk : ∀ (H1 : Heap) (locs1 : List Loc), H1.size = H.size → va_P D cl (ws.set q0 (a, .inr (ci, fs.set k v))) H1 → va_D A (ws.set q0 (a, .inr (ci, fs.set k v))) → va_S A H0 H1 locs1 → W p l e R s m args below meth c H1 locs1 cells slots Q (F0 m (pc + 3) ls rest)) : W p l e R s m args below meth c H locs cells slots Q (F0 m pc ls (v :: .ref a :: rest)) := by
  have hap := va_apart (own := own) hts hin ty0 hty hnm hK hc
  obtain ⟨r, h1, cell, q1, q2, q3, q4⟩ := hP q0 _ he
  cases Option.some.inj (h1.symm.trans hc)
  obtain ⟨hS, hfc, kC, hkC, hkind⟩ := hK.1 ci _ hc
  obtain ⟨cf, kf, fi, f, hi, hsl⟩ := hS k hk
  have hlay := hts _ (hin _ (u_in_lay hk))
  unfold u_lay at hlay
  rw [if_pos hfin] at hlay
  have hst := (u_facts hfc hkC (u_lays hts hin hk) hi).1
  have hcf : m.cls = cf := by
    obtain ⟨_, _, c1, _, _, _, -, -, hf1, -, -, -, hown2, -⟩ := Cond.laysFinal_spec hlay
    have e1 : c1 = cf := by have := hi.symm.trans hf1; simp at this; exact this.1.symm
    rw [hdecl] at hown2
    rw [← e1]; exact Option.some.inj (hown.symm.trans hown2)
  have h6 := u_fits hfc hkC hkind (Or.inr hlay) hi hd hn hfit
  refine W.putFinK hexec hb hown hlink (hsame _ hi) hst hcf hin2 (by rw [q2]; exact h6) q1 q3 (by rw [hsl]; exact k2_hasslot (q4 k hk)) rfl rfl hdg fun H' e1 e2 e3 => ?_
  rw [hsl] at e1 ⊢
  exact kk H' _ e2 (hP.set hD he ⟨_, hc, t_OB.to (V := updV (vp_V fs) k v) ⟨_, e1, q2, q3, t_set q4 hap hk v⟩ (fun j _ => vp_updV_set hl v j)⟩ e3) (hD.set he) (hS0.put e2 e3 (hD.2 q0 _ he))
theorem mx_iast (hexec : p.tables.exec = Jvm.exec) (hb : c.code = cc) (hK : va_K D cl tys s) (hP : va_P D cl ws H) (hD : va_D A ws) (hS : va_S A H0 H locs) (q0 t0 : Nat) {cA : ClassId} {n : Nat} {f : Nat → Int32} (ha : ws[q0]? = some (a, .inl (cA, n, .inl f))) (ht : tys[t0]? = some (cA, .int)) {i : Int32} {x : Int32} (hin : vp_in i n) (hdg : decode cc pc = .ok (.iastore, 1))
    (kk : ∀ (H1 : Heap) (locs1 : List Loc), H1.size = H.size → va_P D cl (ws.set q0 (a, .inl (cA, n, .inl (upd f i.toNatClampNeg x)))) H1 → va_D A (ws.set q0 (a, .inl (cA, n, .inl (upd f i.toNatClampNeg x)))) → va_S A H0 H1 locs1 → W p l e R s m args below meth c H1 locs1 cells slots Q (F0 m (pc + 1) ls rest)) : W p l e R s m args below meth c H locs cells slots Q (F0 m pc ls (.int x :: .int i :: .ref a :: rest)) := by
  refine W.iast hexec hb (hP q0 _ ha) ((hK.2 t0 _ ht).1 n (fun j => .int (f j))) (fun q => by cases q) (by show ¬ (i < 0 ∨ (arrV _ _ _).slots.size ≤ _); rw [arrV_size]; exact hin) rfl rfl hdg fun H1 e z oq => ?_
  refine kk H1 _ z (hP.set hD ha ?_ oq) (hD.set ha) (hS.put z oq (hD.2 q0 _ ha))
  show H1[a]? = some (vp_cell _ _)
  rw [e]
  rw [vp_cell_i, vp_cell_i, arrV_store]
  congr 2
  funext q
  by_cases hq : q = i.toNatClampNeg
  · subst hq
    simp [updV, upd, vp_nar]
    try rfl
  · simp [updV, upd, hq]
theorem mx_zast (hexec : p.tables.exec = Jvm.exec) (hb : c.code = cc) (hK : va_K D cl tys s) (hP : va_P D cl ws H) (hD : va_D A ws) (hS : va_S A H0 H locs) (q0 t0 : Nat) {cA : ClassId} {n : Nat} {f : Nat → Int32} (ha : ws[q0]? = some (a, .inl (cA, n, .inl f))) (ht : tys[t0]? = some (cA, .boolean)) {i : Int32} {x : Int32} (hin : vp_in i n) (hdg : decode cc pc = .ok (.bastore, 1))
    (kk : ∀ (H1 : Heap) (locs1 : List Loc), H1.size = H.size → va_P D cl (ws.set q0 (a, .inl (cA, n, .inl (upd f i.toNatClampNeg (vp_nar .boolean x))))) H1 → va_D A (ws.set q0 (a, .inl (cA, n, .inl (upd f i.toNatClampNeg (vp_nar .boolean x))))) → va_S A H0 H1 locs1 → W p l e R s m args below meth c H1 locs1 cells slots Q (F0 m (pc + 1) ls rest)) : W p l e R s m args below meth c H locs cells slots Q (F0 m pc ls (.int x :: .int i :: .ref a :: rest)) := by
  refine W.zast hexec hb (hP q0 _ ha) ((hK.2 t0 _ ht).1 n (fun j => .int (f j))) (fun q => by cases q) (by show ¬ (i < 0 ∨ (arrV _ _ _).slots.size ≤ _); rw [arrV_size]; exact hin) rfl rfl hdg fun H1 e z oq => ?_
  refine kk H1 _ z (hP.set hD ha ?_ oq) (hD.set ha) (hS.put z oq (hD.2 q0 _ ha))
  show H1[a]? = some (vp_cell _ _)
  rw [e]
  rw [vp_cell_i, vp_cell_i, arrV_store]
  congr 2
  funext q
  by_cases hq : q = i.toNatClampNeg
  · subst hq
    simp [updV, upd, vp_nar]
    try rfl
  · simp [updV, upd, hq]
end PUTS
section STEP
variable {d : Nat} {mt : Mt} {mc ms : Nat} {post : Option Value → Wd → Prop} {L : Nat} {xs : Nat → Int32} {g : Nat → Nat → Nat → Lo → List Value → Wd → Prop} {cs sl pc : Nat} {lo : Lo} {st : List Value} {w : Wd}
set_option maxHeartbeats 4000000 in
theorem Mach.one (M : Mach d mt mc ms post L xs g) {it : It} (hck : ck1 mt pc it = true) {q : Lo × List Value × Wd} (hex : ex1 it lo st w = some q) (k : g cs sl (nxp pc it) q.1 q.2.1 q.2.2) : g cs sl pc lo st w := by
  obtain ⟨p, l, e, R, s, m, args, below, meth, c, Q, E, D, cI, cZ, ⟨hx, hb, hml, hown, hts, hK, hB, hR, hnm, hret, hscr⟩, rfl⟩ := M
  unfold ck1 at hck
  rw [Bool.and_eq_true] at hck
  obtain ⟨hd, hck⟩ := hck
  have hd := of_decide_eq_true hd
  obtain ⟨i, a, b, v⟩ := it
  intro H locs ls hH hS hl
  dsimp only at hd
  cases i <;> first | (dsimp only at hck; cases hck; done) | skip
  all_goals dsimp only [ex1] at hex
  all_goals dsimp only [lnI] at hd
  case iconst n1 =>
    cases hex
    exact lv_iconst hx hb hd (of_decide_eq_true hck) (k H locs ls hH hS hl)
  case bipush n1 =>
    cases hex
    exact lv_bipush hx hb hd (of_decide_eq_true hck) (k H locs ls hH hS hl)
  case sipush n1 =>
    cases hex
    exact lv_sipush hx hb hd (of_decide_eq_true hck) (k H locs ls hH hS hl)
  case iload_n k1 =>
    split at hex
    · rename_i x hg
      cases hex
      exact lv_iload_n hx hb hd (eq_of_beq hck) (rlo_at hl hg) (k H locs ls hH hS hl)
    · cases hex
  case iload k1 =>
    split at hex
    · rename_i x hg
      cases hex
      cases eq_of_beq hck
      exact lv_iload hx hb hd (rlo_at hl hg) (k H locs ls hH hS hl)
    · cases hex
  case lload_n k1 =>
    split at hex
    · rename_i x hg
      cases hex
      exact lv_lload_n hx hb hd (eq_of_beq hck) (rlo_at hl hg) (k H locs ls hH hS hl)
    · cases hex
  case lload k1 =>
    split at hex
    · rename_i x hg
      cases hex
      cases eq_of_beq hck
      exact lv_lload hx hb hd (rlo_at hl hg) (k H locs ls hH hS hl)
    · cases hex
  case aload_n k1 =>
    split at hex
    · rename_i x hg
      cases hex
      exact lv_aload_n hx hb hd (eq_of_beq hck) (rlo_at hl hg) (k H locs ls hH hS hl)
    · cases hex
  case aload k1 =>
    split at hex
    · rename_i x hg
      cases hex
      cases eq_of_beq hck
      exact lv_aload hx hb hd (rlo_at hl hg) (k H locs ls hH hS hl)
    · cases hex
  case istore_n k1 =>
    split at hex
    · rename_i x r
      cases hex
      dsimp only at hck
      rw [Bool.and_eq_true] at hck
      exact lv_istore_n hx hb hd (eq_of_beq hck.1) hl (of_decide_eq_true hck.2) (rlo_slo E lo a (.int x)) (fun ls hl => k H locs ls hH hS hl)
    · cases hex
  case istore k1 =>
    split at hex
    · rename_i x r
      cases hex
      dsimp only at hck
      rw [Bool.and_eq_true] at hck
      cases eq_of_beq hck.1
      exact lv_istore hx hb hd hl (of_decide_eq_true hck.2) (rlo_slo E lo _ (.int x)) (fun ls hl => k H locs ls hH hS hl)
    · cases hex
  case astore_n k1 =>
    split at hex
    · rename_i x r
      cases hex
      dsimp only at hck
      rw [Bool.and_eq_true] at hck
      exact lv_astore_n hx hb hd (eq_of_beq hck.1) hl (of_decide_eq_true hck.2) (rlo_slo E lo a (.ref x)) (fun ls hl => k H locs ls hH hS hl)
    · cases hex
  case lstore_n k1 =>
    split at hex
    · rename_i x r
      cases hex
      dsimp only at hck
      rw [Bool.and_eq_true] at hck
      exact lv_lstore_n hx hb hd (eq_of_beq hck.1) hl (of_decide_eq_true hck.2) (rlo_slo2 E lo a (.long x)) (fun ls hl => k H locs ls hH hS hl)
    · cases hex
  case lstore k1 =>
    split at hex
    · rename_i x r
      cases hex
      dsimp only at hck
      rw [Bool.and_eq_true] at hck
      cases eq_of_beq hck.1
      exact lv_lstore hx hb hd hl (of_decide_eq_true hck.2) (rlo_slo2 E lo _ (.long x)) (fun ls hl => k H locs ls hH hS hl)
    · cases hex
  case iinc k1 n1 =>
    split at hex
    · rename_i x hg
      cases hex
      dsimp only at hck
      rw [Bool.and_eq_true, Bool.and_eq_true] at hck
      cases eq_of_beq hck.1
      obtain ⟨j, hj⟩ := List.getElem?_of_mem (List.mem_map_of_mem (f := fun q : Nat × Value => (q.1, rvl E q.2)) (glo_mem hg))
      exact lv_iinc hx hb hd hl hj (v := x + v) (by rw [of_decide_eq_true hck.2.2]) (of_decide_eq_true hck.2.1) (rlo_slo E lo _ (.int (x + v))) (fun ls hl => k H locs ls hH hS hl)
    · cases hex
  case goto off =>
    cases hex
    exact lv_goto hx hb hd (of_decide_eq_true hck) (k H locs ls hH hS hl)
  case getfield idx =>
    split at hex
    · rename_i k1 r
      split at hex
      · rename_i o ho
        cases ha : o.1 == a with
        | false => rw [ha] at hex; cases hex
        | true =>
          rw [ha] at hex
          dsimp only [cond] at hex
          split at hex
          · rename_i v1 hv1
            cases hex
            cases eq_of_beq ha
            obtain ⟨h5, hn, hlink⟩ := flI_ok hck
            obtain ⟨hc, hin, hty, hnm2⟩ := cls_ok _ h5
            have he := rwd_get (E := E) (cI := cI) (cZ := cZ) ho
            have hv2 : (o.2.map (rvl E))[b]? = some (rvl E v1) := by rw [List.getElem?_map, hv1]; rfl
            rcases hlink with hlink | hlink
            · exact va_get hx hb hts hin hown hK.1 hH.1 (psn w k1) he hc b hn (hts _ hlink) (fun _ h => h) hv2 hd (k H locs ls hH hS hl)
            · exact va_getN hx hb hts hin hown hK.1 hH.1 (psn w k1) he hc b hn (va_Nw.use rfl (hK.2.1 _ hlink)) (fun _ h => h) hv2 hd (k H locs ls hH hS hl)
          · cases hex
      · cases hex
    · cases hex
  case putfield idx =>
    split at hex
    · rename_i x k1 r
      split at hex
      · rename_i o ho
        cases ha : (o.1 == a && decide (b < o.2.length)) with
        | false => rw [ha] at hex; cases hex
        | true =>
          rw [ha] at hex
          dsimp only [cond] at hex
          cases hex
          rw [Bool.and_eq_true] at ha
          cases eq_of_beq ha.1
          dsimp only at hck
          rw [Bool.and_eq_true, Bool.and_eq_true] at hck
          obtain ⟨h5, hn, hlink⟩ := flI_ok hck.1
          have hyi := of_decide_eq_true hck.2.1
          have hfin : (tN o.1 b).2.2.2 = false := by simpa using hck.2.2
          obtain ⟨hc, hin, hty, hnm2⟩ := cls_ok _ h5
          have he := rwd_get (E := E) (cI := cI) (cZ := cZ) ho
          have hbl : b < (o.2.map (rvl E)).length := by rw [List.length_map]; exact of_decide_eq_true ha.2
          have hset : (rwd E cI cZ w).set (psn w k1) (adr E k1, Sum.inr (o.1, (o.2.map (rvl E)).set b (rvl E (.int x)))) = rwd E cI cZ (stc w k1 (.inl (o.1, o.2.set b (.int x)))) := by
            rw [← rwd_set ho]
            show _ = (rwd E cI cZ w).set (psn w k1) (adr E k1, Sum.inr (o.1, (o.2.set b (.int x)).map (rvl E)))
            rw [List.map_set]
          have hd2 : parseFieldDescriptor (tN o.1 b).2.2.1 = some .int := by rw [hty b hn, hyi]
          have hlen := stc_len (w := w) (k := k1) (c := .inl (o.1, o.2.set b (.int x)))
          rcases hlink with hlink | hlink
          · refine mx_put hx hb hts hin (yN o.1) hty hnm2 hown hK.1 hH.1 hH.2.1 hS (psn w k1) he hc b hn (hts _ hlink) (fun _ h => h) hfin hd2 rfl rfl hbl hd (fun H1 locs1 hz1 hP1 hD1 hS1 => ?_)
            exact k H1 locs1 ls ⟨hset ▸ hP1, hset ▸ hD1, by rw [hz1, hlen.1, hlen.2]; exact hH.2.2⟩ hS1 hl
          · refine mx_putN hx hb hts hin (yN o.1) hty hnm2 hown hK.1 hH.1 hH.2.1 hS (psn w k1) he hc b hn (va_Nw.use rfl (hK.2.1 _ hlink)) (fun _ h => h) hfin hd2 rfl rfl hbl hd (fun H1 locs1 hz1 hP1 hD1 hS1 => ?_)
            exact k H1 locs1 ls ⟨hset ▸ hP1, hset ▸ hD1, by rw [hz1, hlen.1, hlen.2]; exact hH.2.2⟩ hS1 hl
      · cases hex
    · cases hex
  case iadd =>
    split at hex
    · cases hex; exact lv_iadd hx hb hd (k H locs ls hH hS hl)
    · cases hex
  case isub =>
    split at hex
    · cases hex; exact lv_isub hx hb hd (k H locs ls hH hS hl)
    · cases hex
  case imul =>
    split at hex
    · cases hex; exact lv_imul hx hb hd (k H locs ls hH hS hl)
    · cases hex
  case iand =>
    split at hex
    · cases hex; exact lv_iand hx hb hd (k H locs ls hH hS hl)
    · cases hex
  case ior =>
    split at hex
    · cases hex; exact lv_ior hx hb hd (k H locs ls hH hS hl)
    · cases hex
  case ixor =>
    split at hex
    · cases hex; exact lv_ixor hx hb hd (k H locs ls hH hS hl)
    · cases hex
  case ishl =>
    split at hex
    · cases hex; exact lv_ishl hx hb hd (k H locs ls hH hS hl)
    · cases hex
  case ishr =>
    split at hex
    · cases hex; exact lv_ishr hx hb hd (k H locs ls hH hS hl)
    · cases hex
  case ladd =>
    split at hex
    · cases hex; exact lv_ladd hx hb hd (k H locs ls hH hS hl)
    · cases hex
  case lmul =>
    split at hex
    · cases hex; exact lv_lmul hx hb hd (k H locs ls hH hS hl)
    · cases hex
  case iushr =>
    split at hex
    · cases hex; exact lv_iushr hx hb hd rfl (k H locs ls hH hS hl)
    · cases hex
  case i2l =>
    split at hex
    · cases hex; exact lv_i2l hx hb hd rfl (k H locs ls hH hS hl)
    · cases hex
  case lcmp =>
    split at hex
    · cases hex; exact W.lcmp hx hb hd (k H locs ls hH hS hl)
    · cases hex
  case dup =>
    split at hex
    · cases hex; exact lv_dup hx hb hd rfl (k H locs ls hH hS hl)
    · cases hex; exact lv_dup hx hb hd rfl (k H locs ls hH hS hl)
    · cases hex
  case dup2 =>
    split at hex
    · cases hex; exact lv_dup2_11 hx hb hd rfl rfl (k H locs ls hH hS hl)
    · cases hex
  case pop =>
    split at hex
    · cases hex; exact lv_pop hx hb hd rfl (k H locs ls hH hS hl)
    · cases hex; exact lv_pop hx hb hd rfl (k H locs ls hH hS hl)
    · cases hex
theorem Mach.blk (M : Mach d mt mc ms post L xs g) {is : List It} : ∀ {pc pc1 : Nat} {lo lo1 : Lo} {st st1 : List Value} {w w1 : Wd}, (ck mt pc is && (endp pc is == pc1)) = true → ex is lo st w = some (lo1, st1, w1) → g cs sl pc1 lo1 st1 w1 → g cs sl pc lo st w := by
  induction is with
  | nil =>
    intro pc pc1 lo lo1 st st1 w w1 hck hex k
    rw [Bool.and_eq_true] at hck
    cases hex
    have e : pc = pc1 := eq_of_beq hck.2
    rw [e]
    exact k
  | cons it r ih =>
    intro pc pc1 lo lo1 st st1 w w1 hck hex k
    rw [Bool.and_eq_true] at hck
    obtain ⟨h1, h2⟩ := hck
    unfold ck at h1
    rw [Bool.and_eq_true] at h1
    unfold ex at hex
    split at hex
    · rename_i q hq
      exact M.one h1.1 hq (ih (by rw [Bool.and_eq_true]; exact ⟨h1.2, h2⟩) hex k)
    · cases hex
end STEP
