section CALLS
def PcC (E : Ev) (D : va_G) (cI cZ : ClassId) (av : List Value) (w : Wd) : Array Value → State → Prop := fun a U => a = (av.map (rvl E)).toArray ∧ HH E D cI cZ w U.heap ∧ KK E D cI cZ U
def QcC (E : Ev) (D : va_G) (cI cZ : ClassId) (post : Option Value → Wd → Prop) : Array Value → State → Outcome → State → Prop := fun _ st oc t => (∃ (r : Option Value) (w' : Wd), oc = .returned (r.map (rvl E)) ∧ post r w' ∧ HH E D cI cZ w' t.heap) ∧ va_F (fun q => E.1 ≤ q) st t
/-- A CONTRACT: at depth d the method mt, with the arguments av in the world w, makes mc cells of ms slots, returns, and 'post' holds of its answer and the world behind it -/
def CC (d : Nat) (mt : Mt) (mc ms : Nat) (av : List Value) (w : Wd) (post : Option Value → Wd → Prop) : Prop :=
  ∀ (l : Launch) (E : Ev) (D : va_G) (cI cZ : ClassId), Met l mt.1 (Cond.code mt.1 mt.2.1 mt.2.2.1 mt.2.2.2.1 :: lw_good) { frames := d, cells := mc, slots := ms, locals := 40 * d } (PcC E D cI cZ av w) (QcC E D cI cZ post) mc ms (fun q => E.1 ≤ q)
theorem rlo_args (E : Ev) : ∀ (av : List Value) (i : Nat), rlo E (lv_args i av) = lv_args i (av.map (rvl E))
  | [], _ => rfl
  | v :: r, i => by
    show (i, rvl E v) :: rlo E (lv_args _ r) = (i, rvl E v) :: lv_args _ (r.map (rvl E))
    rw [rlo_args E r, rvl_cat]
theorem lg_sl_rvl (E : Ev) : ∀ (av : List Value), (lg_sl (av.map (rvl E))).length = (lg_sl av).length
  | [] => rfl
  | v :: r => by
    have h := lg_sl_rvl E r
    unfold lg_sl at h ⊢
    rw [List.map_cons, List.flatMap_cons, List.flatMap_cons, List.length_append, List.length_append, h, rvl_cat]
    congr 1
    split <;> rfl
theorem nest_kind : ∀ w ∈ lw_nest, (∃ a i b n d h, w = .fieldLinkNest a i b n d h) ∨ (∃ a i x h, w = .methodLinkNest a i x h) := by
  unfold lw_nest
  simp only [List.forall_mem_cons]
  refine ⟨?_, ?_, ?_, ?_, ?_, ?_, ?_, ?_, ?_, ?_, ?_, ?_, ?_, ?_, ?_, fun _ h => absurd h List.not_mem_nil⟩ <;> first | exact Or.inl ⟨_, _, _, _, _, _, rfl⟩ | exact Or.inr ⟨_, _, _, _, rfl⟩
theorem KK_moved {E : Ev} {D : va_G} {cI cZ : ClassId} {s U : State} {locs : List Loc} (h : KK E D cI cZ s) (hW : s.WarmedH U.vm) (hS : va_S (fun q => E.1 ≤ q) s.heap U.heap locs) : KK E D cI cZ U := by
  obtain ⟨h1, h2, h3, h4⟩ := h
  refine ⟨va_K.moved hW.alike h1, fun w hw => ?_, (h3.kept hS.2.1).moved hW.alike, (h4.kept hS.2.1).moved hW.alike⟩
  rcases nest_kind w hw with ⟨a, i, b, n, d, hh, rfl⟩ | ⟨a, i, x, hh, rfl⟩
  · exact va_Nw.warmF hW (h2 _ hw)
  · exact va_Nw.warmM hW (h2 _ hw)
theorem PcC_blind (E : Ev) (D : va_G) (cI cZ : ClassId) (av : List Value) (w : Wd) : FrameBlind (PcC E D cI cZ av w) := by
  intro a U g mk ⟨h1, h2, h3, h4, h5, h6⟩
  refine ⟨h1, h2, va_K.moved (u := U) (U := U.calling g mk a) (Vm.Alike.refl U.vm) h3, fun w hw => ?_, va_Z.moved (u := U) (U := U.calling g mk a) (Vm.Alike.refl U.vm) h5, va_T.moved (u := U) (U := U.calling g mk a) (Vm.Alike.refl U.vm) h6⟩
  rcases nest_kind w hw with ⟨a1, i, b, n, d, hh, rfl⟩ | ⟨a1, i, x, hh, rfl⟩
  · exact va_Nw.same rfl (u := U) (U := U.calling g mk a) rfl (h4 _ hw)
  · exact va_Nw.same rfl (u := U) (U := U.calling g mk a) rfl (h4 _ hw)
set_option maxHeartbeats 1000000 in
theorem CC.of {d : Nat} {mt : Mt} {mc ms n : Nat} {av : List Value} {w : Wd} {post : Option Value → Wd → Prop} (ok : OkB mt n) (hav : (lg_sl av).length ≤ mt.2.2.1)
    (h : ∀ g, Mach d mt mc ms post 4000 (fun _ => 0) g → g 0 0 0 (lv_args 0 av) [] w) : CC d mt mc ms av w post := by
  intro l E D cI cZ
  refine Met.ofW (cc := mt.2.1) (maxL := mt.2.2.1) (ret := mt.2.2.2.1) ok.2.2.2.2.1 rfl ?_
  intro p e s m args below meth c s₁ B hml hv
  obtain ⟨rfl, hH, hK⟩ := hv
  have hts0 := atoms_spec (ws := Cond.code mt.1 mt.2.1 mt.2.2.1 mt.2.2.2.1 :: lw_good) B.pre
  have hts : ∀ w ∈ lw_good, w.before (av.map (rvl E)).toArray s = true := fun w hw => hts0 w (List.mem_cons_of_mem _ hw)
  have hown : s.vm.findClass mt.1.cls = some m.cls := findClass_of_methodNamed B.named
  have hnm : meth.name = mt.1.name := (name_of_methodNamed B.named B.method).1
  have hr := B.returns
  have hlocks := B.notSynchronized
  have hB : E.1 ≤ s.heap.size := by rw [hH.2.2]; omega
  rw [lg_entry_eq]
  have hl := lv_entry (av.map (rvl E)) (n := mt.2.2.1) (by rw [lg_sl_rvl]; exact hav)
  rw [← rlo_args] at hl
  refine h (Gp p l e _ s m _ below meth c _ E D cI cZ mt.2.2.1) ⟨p, l, e, _, s, m, _, below, meth, c, _, E, D, cI, cZ, ⟨B.exec, B.bytes, hml, by rw [ok.2.2.2.2.2]; exact hown, hts, hK, hB, ⟨Nat.le_refl _, Nat.le_refl _, Nat.le_refl _, Nat.le_refl _⟩, fun _ => hnm, ?_, Or.inl rfl⟩, rfl⟩ s.heap [] _ hH va_S.rf hl
  intro pc r w1 H locs ls hri hp hH1 hS1
  have hf : ∀ q ∈ locs, (fun q => E.1 ≤ q) q.base := hS1.2.2
  rcases hri with ⟨rfl, h1, h2⟩ | ⟨v, rfl, h1, h2⟩ | ⟨v, rfl, h1, h2⟩
  · exact W.vret B.exec B.bytes (hr.trans h1) (fun t ht hW => ⟨⟨none, w1, rfl, hp, by rw [ht]; exact hH1⟩, hS1.F ht⟩) hf h2 hlocks
  · rcases h1 with h1 | ⟨h1, h3⟩
    · exact W.iret B.exec B.bytes (hr.trans h1) (fun t ht hW => ⟨⟨some (.int v), w1, rfl, hp, by rw [ht]; exact hH1⟩, hS1.F ht⟩) hf h2 hlocks
    · exact W.zret B.exec B.bytes (hr.trans h1) (by rcases h3 with rfl | rfl <;> rfl) (fun t ht hW => ⟨⟨some (.int v), w1, rfl, hp, by rw [ht]; exact hH1⟩, hS1.F ht⟩) hf h2 hlocks
  · exact W.lret B.exec B.bytes (hr.trans h1) (fun t ht hW => ⟨⟨some (.long v), w1, rfl, hp, by rw [ht]; exact hH1⟩, hS1.F ht⟩) hf h2 hlocks
end CALLS
